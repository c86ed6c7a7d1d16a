set_option maxRecDepth 100000 in
theorem zd160 : ∀ o ∈ zc160, decode (zby 160) o.1 = .ok (o.2.1, o.2.2.1) := by decide +kernel
set_option maxRecDepth 100000 in
theorem zk160 : zc160.all (zckop 160) = true := by decide +kernel
set_option maxRecDepth 100000 in
theorem zq160 : (∀ o ∈ zcode 160, decode (zby 160) o.1 = .ok (o.2.1, o.2.2.1)) ∧ (zcode 160).all (zckop 160) = true := ⟨zd160, zk160⟩
set_option maxRecDepth 100000 in
theorem zd161_0 : ∀ o ∈ zc161_0, decode prog_13_method_13_code o.1 = .ok (o.2.1, o.2.2.1) := by decide +kernel
set_option maxRecDepth 100000 in
theorem zk161_0 : zc161_0.all (zckop 161) = true := by decide +kernel
set_option maxRecDepth 100000 in
theorem zd161_1 : ∀ o ∈ zc161_1, decode prog_13_method_13_code o.1 = .ok (o.2.1, o.2.2.1) := by decide +kernel
set_option maxRecDepth 100000 in
theorem zk161_1 : zc161_1.all (zckop 161) = true := by decide +kernel
set_option maxRecDepth 100000 in
theorem zd161_2 : ∀ o ∈ zc161_2, decode prog_13_method_13_code o.1 = .ok (o.2.1, o.2.2.1) := by decide +kernel
set_option maxRecDepth 100000 in
theorem zk161_2 : zc161_2.all (zckop 161) = true := by decide +kernel
set_option maxRecDepth 100000 in
theorem zd161 : ∀ o ∈ zc161, decode (zby 161) o.1 = .ok (o.2.1, o.2.2.1) := List.forall_mem_append.mpr ⟨zd161_0, List.forall_mem_append.mpr ⟨zd161_1, zd161_2⟩⟩
set_option maxRecDepth 100000 in
theorem zk161 : zc161.all (zckop 161) = true := zallapp zk161_0 (zallapp zk161_1 (zk161_2))
set_option maxRecDepth 100000 in
theorem zq161 : (∀ o ∈ zcode 161, decode (zby 161) o.1 = .ok (o.2.1, o.2.2.1)) ∧ (zcode 161).all (zckop 161) = true := ⟨zd161, zk161⟩
set_option maxRecDepth 100000 in
theorem zd162 : ∀ o ∈ zc162, decode (zby 162) o.1 = .ok (o.2.1, o.2.2.1) := by decide +kernel
set_option maxRecDepth 100000 in
theorem zk162 : zc162.all (zckop 162) = true := by decide +kernel
set_option maxRecDepth 100000 in
theorem zq162 : (∀ o ∈ zcode 162, decode (zby 162) o.1 = .ok (o.2.1, o.2.2.1)) ∧ (zcode 162).all (zckop 162) = true := ⟨zd162, zk162⟩
set_option maxRecDepth 100000 in
theorem zd163 : ∀ o ∈ zc163, decode (zby 163) o.1 = .ok (o.2.1, o.2.2.1) := by decide +kernel
set_option maxRecDepth 100000 in
theorem zk163 : zc163.all (zckop 163) = true := by decide +kernel
set_option maxRecDepth 100000 in
theorem zq163 : (∀ o ∈ zcode 163, decode (zby 163) o.1 = .ok (o.2.1, o.2.2.1)) ∧ (zcode 163).all (zckop 163) = true := ⟨zd163, zk163⟩
set_option maxRecDepth 100000 in
theorem zd164 : ∀ o ∈ zc164, decode (zby 164) o.1 = .ok (o.2.1, o.2.2.1) := by decide +kernel
set_option maxRecDepth 100000 in
theorem zk164 : zc164.all (zckop 164) = true := by decide +kernel
set_option maxRecDepth 100000 in
theorem zq164 : (∀ o ∈ zcode 164, decode (zby 164) o.1 = .ok (o.2.1, o.2.2.1)) ∧ (zcode 164).all (zckop 164) = true := ⟨zd164, zk164⟩
set_option maxRecDepth 100000 in
theorem zd165 : ∀ o ∈ zc165, decode (zby 165) o.1 = .ok (o.2.1, o.2.2.1) := by decide +kernel
set_option maxRecDepth 100000 in
theorem zk165 : zc165.all (zckop 165) = true := by decide +kernel
set_option maxRecDepth 100000 in
theorem zq165 : (∀ o ∈ zcode 165, decode (zby 165) o.1 = .ok (o.2.1, o.2.2.1)) ∧ (zcode 165).all (zckop 165) = true := ⟨zd165, zk165⟩
set_option maxRecDepth 100000 in
theorem zd166 : ∀ o ∈ zc166, decode (zby 166) o.1 = .ok (o.2.1, o.2.2.1) := by decide +kernel
set_option maxRecDepth 100000 in
theorem zk166 : zc166.all (zckop 166) = true := by decide +kernel
set_option maxRecDepth 100000 in
theorem zq166 : (∀ o ∈ zcode 166, decode (zby 166) o.1 = .ok (o.2.1, o.2.2.1)) ∧ (zcode 166).all (zckop 166) = true := ⟨zd166, zk166⟩
set_option maxRecDepth 100000 in
theorem zd167 : ∀ o ∈ zc167, decode (zby 167) o.1 = .ok (o.2.1, o.2.2.1) := by decide +kernel
set_option maxRecDepth 100000 in
theorem zk167 : zc167.all (zckop 167) = true := by decide +kernel
set_option maxRecDepth 100000 in
theorem zq167 : (∀ o ∈ zcode 167, decode (zby 167) o.1 = .ok (o.2.1, o.2.2.1)) ∧ (zcode 167).all (zckop 167) = true := ⟨zd167, zk167⟩
set_option maxRecDepth 100000 in
theorem zd168 : ∀ o ∈ zc168, decode (zby 168) o.1 = .ok (o.2.1, o.2.2.1) := by decide +kernel
set_option maxRecDepth 100000 in
theorem zk168 : zc168.all (zckop 168) = true := by decide +kernel
set_option maxRecDepth 100000 in
theorem zq168 : (∀ o ∈ zcode 168, decode (zby 168) o.1 = .ok (o.2.1, o.2.2.1)) ∧ (zcode 168).all (zckop 168) = true := ⟨zd168, zk168⟩
set_option maxRecDepth 100000 in
theorem zd169 : ∀ o ∈ zc169, decode (zby 169) o.1 = .ok (o.2.1, o.2.2.1) := by decide +kernel
set_option maxRecDepth 100000 in
theorem zk169 : zc169.all (zckop 169) = true := by decide +kernel
set_option maxRecDepth 100000 in
theorem zq169 : (∀ o ∈ zcode 169, decode (zby 169) o.1 = .ok (o.2.1, o.2.2.1)) ∧ (zcode 169).all (zckop 169) = true := ⟨zd169, zk169⟩
set_option maxRecDepth 100000 in
theorem zd170 : ∀ o ∈ zc170, decode (zby 170) o.1 = .ok (o.2.1, o.2.2.1) := by decide +kernel
set_option maxRecDepth 100000 in
theorem zk170 : zc170.all (zckop 170) = true := by decide +kernel
set_option maxRecDepth 100000 in
theorem zq170 : (∀ o ∈ zcode 170, decode (zby 170) o.1 = .ok (o.2.1, o.2.2.1)) ∧ (zcode 170).all (zckop 170) = true := ⟨zd170, zk170⟩
set_option maxRecDepth 100000 in
theorem zd171 : ∀ o ∈ zc171, decode (zby 171) o.1 = .ok (o.2.1, o.2.2.1) := by decide +kernel
set_option maxRecDepth 100000 in
theorem zk171 : zc171.all (zckop 171) = true := by decide +kernel
set_option maxRecDepth 100000 in
theorem zq171 : (∀ o ∈ zcode 171, decode (zby 171) o.1 = .ok (o.2.1, o.2.2.1)) ∧ (zcode 171).all (zckop 171) = true := ⟨zd171, zk171⟩
set_option maxRecDepth 100000 in
theorem zd172 : ∀ o ∈ zc172, decode (zby 172) o.1 = .ok (o.2.1, o.2.2.1) := by decide +kernel
set_option maxRecDepth 100000 in
theorem zk172 : zc172.all (zckop 172) = true := by decide +kernel
set_option maxRecDepth 100000 in
theorem zq172 : (∀ o ∈ zcode 172, decode (zby 172) o.1 = .ok (o.2.1, o.2.2.1)) ∧ (zcode 172).all (zckop 172) = true := ⟨zd172, zk172⟩
set_option maxRecDepth 100000 in
theorem zd173 : ∀ o ∈ zc173, decode (zby 173) o.1 = .ok (o.2.1, o.2.2.1) := by decide +kernel
set_option maxRecDepth 100000 in
theorem zk173 : zc173.all (zckop 173) = true := by decide +kernel
set_option maxRecDepth 100000 in
theorem zq173 : (∀ o ∈ zcode 173, decode (zby 173) o.1 = .ok (o.2.1, o.2.2.1)) ∧ (zcode 173).all (zckop 173) = true := ⟨zd173, zk173⟩
set_option maxRecDepth 100000 in
theorem zd174 : ∀ o ∈ zc174, decode (zby 174) o.1 = .ok (o.2.1, o.2.2.1) := by decide +kernel
set_option maxRecDepth 100000 in
theorem zk174 : zc174.all (zckop 174) = true := by decide +kernel
set_option maxRecDepth 100000 in
theorem zq174 : (∀ o ∈ zcode 174, decode (zby 174) o.1 = .ok (o.2.1, o.2.2.1)) ∧ (zcode 174).all (zckop 174) = true := ⟨zd174, zk174⟩
set_option maxRecDepth 100000 in
theorem zd175 : ∀ o ∈ zc175, decode (zby 175) o.1 = .ok (o.2.1, o.2.2.1) := by decide +kernel
set_option maxRecDepth 100000 in
theorem zk175 : zc175.all (zckop 175) = true := by decide +kernel
set_option maxRecDepth 100000 in
theorem zq175 : (∀ o ∈ zcode 175, decode (zby 175) o.1 = .ok (o.2.1, o.2.2.1)) ∧ (zcode 175).all (zckop 175) = true := ⟨zd175, zk175⟩
set_option maxRecDepth 100000 in
theorem zd176_0 : ∀ o ∈ zc176_0, decode prog_13_method_28_code o.1 = .ok (o.2.1, o.2.2.1) := by decide +kernel
set_option maxRecDepth 100000 in
theorem zk176_0 : zc176_0.all (zckop 176) = true := by decide +kernel
set_option maxRecDepth 100000 in
theorem zd176_1 : ∀ o ∈ zc176_1, decode prog_13_method_28_code o.1 = .ok (o.2.1, o.2.2.1) := by decide +kernel
set_option maxRecDepth 100000 in
theorem zk176_1 : zc176_1.all (zckop 176) = true := by decide +kernel
set_option maxRecDepth 100000 in
theorem zd176_2 : ∀ o ∈ zc176_2, decode prog_13_method_28_code o.1 = .ok (o.2.1, o.2.2.1) := by decide +kernel
set_option maxRecDepth 100000 in
theorem zk176_2 : zc176_2.all (zckop 176) = true := by decide +kernel
set_option maxRecDepth 100000 in
theorem zd176 : ∀ o ∈ zc176, decode (zby 176) o.1 = .ok (o.2.1, o.2.2.1) := List.forall_mem_append.mpr ⟨zd176_0, List.forall_mem_append.mpr ⟨zd176_1, zd176_2⟩⟩
set_option maxRecDepth 100000 in
theorem zk176 : zc176.all (zckop 176) = true := zallapp zk176_0 (zallapp zk176_1 (zk176_2))
set_option maxRecDepth 100000 in
theorem zq176 : (∀ o ∈ zcode 176, decode (zby 176) o.1 = .ok (o.2.1, o.2.2.1)) ∧ (zcode 176).all (zckop 176) = true := ⟨zd176, zk176⟩
set_option maxRecDepth 100000 in
theorem zd177_0 : ∀ o ∈ zc177_0, decode prog_13_method_29_code o.1 = .ok (o.2.1, o.2.2.1) := by decide +kernel
set_option maxRecDepth 100000 in
theorem zk177_0 : zc177_0.all (zckop 177) = true := by decide +kernel
set_option maxRecDepth 100000 in
theorem zd177_1 : ∀ o ∈ zc177_1, decode prog_13_method_29_code o.1 = .ok (o.2.1, o.2.2.1) := by decide +kernel
set_option maxRecDepth 100000 in
theorem zk177_1 : zc177_1.all (zckop 177) = true := by decide +kernel
set_option maxRecDepth 100000 in
theorem zd177 : ∀ o ∈ zc177, decode (zby 177) o.1 = .ok (o.2.1, o.2.2.1) := List.forall_mem_append.mpr ⟨zd177_0, zd177_1⟩
set_option maxRecDepth 100000 in
theorem zk177 : zc177.all (zckop 177) = true := zallapp zk177_0 (zk177_1)
set_option maxRecDepth 100000 in
theorem zq177 : (∀ o ∈ zcode 177, decode (zby 177) o.1 = .ok (o.2.1, o.2.2.1)) ∧ (zcode 177).all (zckop 177) = true := ⟨zd177, zk177⟩
set_option maxRecDepth 100000 in
theorem zd178 : ∀ o ∈ zc178, decode (zby 178) o.1 = .ok (o.2.1, o.2.2.1) := by decide +kernel
set_option maxRecDepth 100000 in
theorem zk178 : zc178.all (zckop 178) = true := by decide +kernel
set_option maxRecDepth 100000 in
theorem zq178 : (∀ o ∈ zcode 178, decode (zby 178) o.1 = .ok (o.2.1, o.2.2.1)) ∧ (zcode 178).all (zckop 178) = true := ⟨zd178, zk178⟩
set_option maxRecDepth 100000 in
theorem zd179_0 : ∀ o ∈ zc179_0, decode prog_13_method_31_code o.1 = .ok (o.2.1, o.2.2.1) := by decide +kernel
set_option maxRecDepth 100000 in
theorem zk179_0 : zc179_0.all (zckop 179) = true := by decide +kernel
set_option maxRecDepth 100000 in
theorem zd179_1 : ∀ o ∈ zc179_1, decode prog_13_method_31_code o.1 = .ok (o.2.1, o.2.2.1) := by decide +kernel
set_option maxRecDepth 100000 in
theorem zk179_1 : zc179_1.all (zckop 179) = true := by decide +kernel
set_option maxRecDepth 100000 in
theorem zd179 : ∀ o ∈ zc179, decode (zby 179) o.1 = .ok (o.2.1, o.2.2.1) := List.forall_mem_append.mpr ⟨zd179_0, zd179_1⟩
set_option maxRecDepth 100000 in
theorem zk179 : zc179.all (zckop 179) = true := zallapp zk179_0 (zk179_1)
set_option maxRecDepth 100000 in
theorem zq179 : (∀ o ∈ zcode 179, decode (zby 179) o.1 = .ok (o.2.1, o.2.2.1)) ∧ (zcode 179).all (zckop 179) = true := ⟨zd179, zk179⟩
set_option maxRecDepth 100000 in
theorem zd180 : ∀ o ∈ zc180, decode (zby 180) o.1 = .ok (o.2.1, o.2.2.1) := by decide +kernel
set_option maxRecDepth 100000 in
theorem zk180 : zc180.all (zckop 180) = true := by decide +kernel
set_option maxRecDepth 100000 in
theorem zq180 : (∀ o ∈ zcode 180, decode (zby 180) o.1 = .ok (o.2.1, o.2.2.1)) ∧ (zcode 180).all (zckop 180) = true := ⟨zd180, zk180⟩
set_option maxRecDepth 100000 in
theorem zd181 : ∀ o ∈ zc181, decode (zby 181) o.1 = .ok (o.2.1, o.2.2.1) := by decide +kernel
set_option maxRecDepth 100000 in
theorem zk181 : zc181.all (zckop 181) = true := by decide +kernel
set_option maxRecDepth 100000 in
theorem zq181 : (∀ o ∈ zcode 181, decode (zby 181) o.1 = .ok (o.2.1, o.2.2.1)) ∧ (zcode 181).all (zckop 181) = true := ⟨zd181, zk181⟩
set_option maxRecDepth 100000 in
theorem zd182 : ∀ o ∈ zc182, decode (zby 182) o.1 = .ok (o.2.1, o.2.2.1) := by decide +kernel
set_option maxRecDepth 100000 in
theorem zk182 : zc182.all (zckop 182) = true := by decide +kernel
set_option maxRecDepth 100000 in
theorem zq182 : (∀ o ∈ zcode 182, decode (zby 182) o.1 = .ok (o.2.1, o.2.2.1)) ∧ (zcode 182).all (zckop 182) = true := ⟨zd182, zk182⟩
set_option maxRecDepth 100000 in
theorem zd183 : ∀ o ∈ zc183, decode (zby 183) o.1 = .ok (o.2.1, o.2.2.1) := by decide +kernel
set_option maxRecDepth 100000 in
theorem zk183 : zc183.all (zckop 183) = true := by decide +kernel
set_option maxRecDepth 100000 in
theorem zq183 : (∀ o ∈ zcode 183, decode (zby 183) o.1 = .ok (o.2.1, o.2.2.1)) ∧ (zcode 183).all (zckop 183) = true := ⟨zd183, zk183⟩
set_option maxRecDepth 100000 in
theorem zd184 : ∀ o ∈ zc184, decode (zby 184) o.1 = .ok (o.2.1, o.2.2.1) := by decide +kernel
set_option maxRecDepth 100000 in
theorem zk184 : zc184.all (zckop 184) = true := by decide +kernel
set_option maxRecDepth 100000 in
theorem zq184 : (∀ o ∈ zcode 184, decode (zby 184) o.1 = .ok (o.2.1, o.2.2.1)) ∧ (zcode 184).all (zckop 184) = true := ⟨zd184, zk184⟩
set_option maxRecDepth 100000 in
theorem zd185 : ∀ o ∈ zc185, decode (zby 185) o.1 = .ok (o.2.1, o.2.2.1) := by decide +kernel
set_option maxRecDepth 100000 in
theorem zk185 : zc185.all (zckop 185) = true := by decide +kernel
set_option maxRecDepth 100000 in
theorem zq185 : (∀ o ∈ zcode 185, decode (zby 185) o.1 = .ok (o.2.1, o.2.2.1)) ∧ (zcode 185).all (zckop 185) = true := ⟨zd185, zk185⟩
set_option maxRecDepth 100000 in
theorem zd186 : ∀ o ∈ zc186, decode (zby 186) o.1 = .ok (o.2.1, o.2.2.1) := by decide +kernel
set_option maxRecDepth 100000 in
theorem zk186 : zc186.all (zckop 186) = true := by decide +kernel
set_option maxRecDepth 100000 in
theorem zq186 : (∀ o ∈ zcode 186, decode (zby 186) o.1 = .ok (o.2.1, o.2.2.1)) ∧ (zcode 186).all (zckop 186) = true := ⟨zd186, zk186⟩
set_option maxRecDepth 100000 in
theorem zd187 : ∀ o ∈ zc187, decode (zby 187) o.1 = .ok (o.2.1, o.2.2.1) := by decide +kernel
set_option maxRecDepth 100000 in
theorem zk187 : zc187.all (zckop 187) = true := by decide +kernel
set_option maxRecDepth 100000 in
theorem zq187 : (∀ o ∈ zcode 187, decode (zby 187) o.1 = .ok (o.2.1, o.2.2.1)) ∧ (zcode 187).all (zckop 187) = true := ⟨zd187, zk187⟩
set_option maxRecDepth 100000 in
theorem zd188 : ∀ o ∈ zc188, decode (zby 188) o.1 = .ok (o.2.1, o.2.2.1) := by decide +kernel
set_option maxRecDepth 100000 in
theorem zk188 : zc188.all (zckop 188) = true := by decide +kernel
set_option maxRecDepth 100000 in
theorem zq188 : (∀ o ∈ zcode 188, decode (zby 188) o.1 = .ok (o.2.1, o.2.2.1)) ∧ (zcode 188).all (zckop 188) = true := ⟨zd188, zk188⟩
set_option maxRecDepth 100000 in
theorem zd189_0 : ∀ o ∈ zc189_0, decode prog_13_method_41_code o.1 = .ok (o.2.1, o.2.2.1) := by decide +kernel
set_option maxRecDepth 100000 in
theorem zk189_0 : zc189_0.all (zckop 189) = true := by decide +kernel
set_option maxRecDepth 100000 in
theorem zd189_1 : ∀ o ∈ zc189_1, decode prog_13_method_41_code o.1 = .ok (o.2.1, o.2.2.1) := by decide +kernel
set_option maxRecDepth 100000 in
theorem zk189_1 : zc189_1.all (zckop 189) = true := by decide +kernel
set_option maxRecDepth 100000 in
theorem zd189_2 : ∀ o ∈ zc189_2, decode prog_13_method_41_code o.1 = .ok (o.2.1, o.2.2.1) := by decide +kernel
set_option maxRecDepth 100000 in
theorem zk189_2 : zc189_2.all (zckop 189) = true := by decide +kernel
set_option maxRecDepth 100000 in
theorem zd189 : ∀ o ∈ zc189, decode (zby 189) o.1 = .ok (o.2.1, o.2.2.1) := List.forall_mem_append.mpr ⟨zd189_0, List.forall_mem_append.mpr ⟨zd189_1, zd189_2⟩⟩
set_option maxRecDepth 100000 in
theorem zk189 : zc189.all (zckop 189) = true := zallapp zk189_0 (zallapp zk189_1 (zk189_2))
set_option maxRecDepth 100000 in
theorem zq189 : (∀ o ∈ zcode 189, decode (zby 189) o.1 = .ok (o.2.1, o.2.2.1)) ∧ (zcode 189).all (zckop 189) = true := ⟨zd189, zk189⟩
set_option maxRecDepth 100000 in
theorem zd190 : ∀ o ∈ zc190, decode (zby 190) o.1 = .ok (o.2.1, o.2.2.1) := by decide +kernel
set_option maxRecDepth 100000 in
theorem zk190 : zc190.all (zckop 190) = true := by decide +kernel
set_option maxRecDepth 100000 in
theorem zq190 : (∀ o ∈ zcode 190, decode (zby 190) o.1 = .ok (o.2.1, o.2.2.1)) ∧ (zcode 190).all (zckop 190) = true := ⟨zd190, zk190⟩
set_option maxRecDepth 100000 in
theorem zd191 : ∀ o ∈ zc191, decode (zby 191) o.1 = .ok (o.2.1, o.2.2.1) := by decide +kernel
set_option maxRecDepth 100000 in
theorem zk191 : zc191.all (zckop 191) = true := by decide +kernel
set_option maxRecDepth 100000 in
theorem zq191 : (∀ o ∈ zcode 191, decode (zby 191) o.1 = .ok (o.2.1, o.2.2.1)) ∧ (zcode 191).all (zckop 191) = true := ⟨zd191, zk191⟩
set_option maxRecDepth 100000 in
theorem zd192 : ∀ o ∈ zc192, decode (zby 192) o.1 = .ok (o.2.1, o.2.2.1) := by decide +kernel
set_option maxRecDepth 100000 in
theorem zk192 : zc192.all (zckop 192) = true := by decide +kernel
set_option maxRecDepth 100000 in
theorem zq192 : (∀ o ∈ zcode 192, decode (zby 192) o.1 = .ok (o.2.1, o.2.2.1)) ∧ (zcode 192).all (zckop 192) = true := ⟨zd192, zk192⟩
set_option maxRecDepth 100000 in
theorem zd193_0 : ∀ o ∈ zc193_0, decode prog_13_method_45_code o.1 = .ok (o.2.1, o.2.2.1) := by decide +kernel
set_option maxRecDepth 100000 in
theorem zk193_0 : zc193_0.all (zckop 193) = true := by decide +kernel
set_option maxRecDepth 100000 in
theorem zd193_1 : ∀ o ∈ zc193_1, decode prog_13_method_45_code o.1 = .ok (o.2.1, o.2.2.1) := by decide +kernel
set_option maxRecDepth 100000 in
theorem zk193_1 : zc193_1.all (zckop 193) = true := by decide +kernel
set_option maxRecDepth 100000 in
theorem zd193 : ∀ o ∈ zc193, decode (zby 193) o.1 = .ok (o.2.1, o.2.2.1) := List.forall_mem_append.mpr ⟨zd193_0, zd193_1⟩
set_option maxRecDepth 100000 in
theorem zk193 : zc193.all (zckop 193) = true := zallapp zk193_0 (zk193_1)
set_option maxRecDepth 100000 in
theorem zq193 : (∀ o ∈ zcode 193, decode (zby 193) o.1 = .ok (o.2.1, o.2.2.1)) ∧ (zcode 193).all (zckop 193) = true := ⟨zd193, zk193⟩
set_option maxRecDepth 100000 in
theorem zd194_0 : ∀ o ∈ zc194_0, decode prog_13_method_46_code o.1 = .ok (o.2.1, o.2.2.1) := by decide +kernel
set_option maxRecDepth 100000 in
theorem zk194_0 : zc194_0.all (zckop 194) = true := by decide +kernel
set_option maxRecDepth 100000 in
theorem zd194_1 : ∀ o ∈ zc194_1, decode prog_13_method_46_code o.1 = .ok (o.2.1, o.2.2.1) := by decide +kernel
set_option maxRecDepth 100000 in
theorem zk194_1 : zc194_1.all (zckop 194) = true := by decide +kernel
set_option maxRecDepth 100000 in
theorem zd194 : ∀ o ∈ zc194, decode (zby 194) o.1 = .ok (o.2.1, o.2.2.1) := List.forall_mem_append.mpr ⟨zd194_0, zd194_1⟩
set_option maxRecDepth 100000 in
theorem zk194 : zc194.all (zckop 194) = true := zallapp zk194_0 (zk194_1)
set_option maxRecDepth 100000 in
theorem zq194 : (∀ o ∈ zcode 194, decode (zby 194) o.1 = .ok (o.2.1, o.2.2.1)) ∧ (zcode 194).all (zckop 194) = true := ⟨zd194, zk194⟩
set_option maxRecDepth 100000 in
theorem zd195_0 : ∀ o ∈ zc195_0, decode prog_13_method_47_code o.1 = .ok (o.2.1, o.2.2.1) := by decide +kernel
set_option maxRecDepth 100000 in
theorem zk195_0 : zc195_0.all (zckop 195) = true := by decide +kernel
set_option maxRecDepth 100000 in
theorem zd195_1 : ∀ o ∈ zc195_1, decode prog_13_method_47_code o.1 = .ok (o.2.1, o.2.2.1) := by decide +kernel
set_option maxRecDepth 100000 in
theorem zk195_1 : zc195_1.all (zckop 195) = true := by decide +kernel
set_option maxRecDepth 100000 in
theorem zd195 : ∀ o ∈ zc195, decode (zby 195) o.1 = .ok (o.2.1, o.2.2.1) := List.forall_mem_append.mpr ⟨zd195_0, zd195_1⟩
set_option maxRecDepth 100000 in
theorem zk195 : zc195.all (zckop 195) = true := zallapp zk195_0 (zk195_1)
set_option maxRecDepth 100000 in
theorem zq195 : (∀ o ∈ zcode 195, decode (zby 195) o.1 = .ok (o.2.1, o.2.2.1)) ∧ (zcode 195).all (zckop 195) = true := ⟨zd195, zk195⟩
set_option maxRecDepth 100000 in
theorem zd196 : ∀ o ∈ zc196, decode (zby 196) o.1 = .ok (o.2.1, o.2.2.1) := by decide +kernel
set_option maxRecDepth 100000 in
theorem zk196 : zc196.all (zckop 196) = true := by decide +kernel
set_option maxRecDepth 100000 in
theorem zq196 : (∀ o ∈ zcode 196, decode (zby 196) o.1 = .ok (o.2.1, o.2.2.1)) ∧ (zcode 196).all (zckop 196) = true := ⟨zd196, zk196⟩
set_option maxRecDepth 100000 in
theorem zd197 : ∀ o ∈ zc197, decode (zby 197) o.1 = .ok (o.2.1, o.2.2.1) := by decide +kernel
set_option maxRecDepth 100000 in
theorem zk197 : zc197.all (zckop 197) = true := by decide +kernel
set_option maxRecDepth 100000 in
theorem zq197 : (∀ o ∈ zcode 197, decode (zby 197) o.1 = .ok (o.2.1, o.2.2.1)) ∧ (zcode 197).all (zckop 197) = true := ⟨zd197, zk197⟩
set_option maxRecDepth 100000 in
theorem zd198_0 : ∀ o ∈ zc198_0, decode prog_13_method_50_code o.1 = .ok (o.2.1, o.2.2.1) := by decide +kernel
set_option maxRecDepth 100000 in
theorem zk198_0 : zc198_0.all (zckop 198) = true := by decide +kernel
set_option maxRecDepth 100000 in
theorem zd198_1 : ∀ o ∈ zc198_1, decode prog_13_method_50_code o.1 = .ok (o.2.1, o.2.2.1) := by decide +kernel
set_option maxRecDepth 100000 in
theorem zk198_1 : zc198_1.all (zckop 198) = true := by decide +kernel
set_option maxRecDepth 100000 in
theorem zd198 : ∀ o ∈ zc198, decode (zby 198) o.1 = .ok (o.2.1, o.2.2.1) := List.forall_mem_append.mpr ⟨zd198_0, zd198_1⟩
set_option maxRecDepth 100000 in
theorem zk198 : zc198.all (zckop 198) = true := zallapp zk198_0 (zk198_1)
set_option maxRecDepth 100000 in
theorem zq198 : (∀ o ∈ zcode 198, decode (zby 198) o.1 = .ok (o.2.1, o.2.2.1)) ∧ (zcode 198).all (zckop 198) = true := ⟨zd198, zk198⟩
set_option maxRecDepth 100000 in
theorem zd199_0 : ∀ o ∈ zc199_0, decode prog_13_method_51_code o.1 = .ok (o.2.1, o.2.2.1) := by decide +kernel
set_option maxRecDepth 100000 in
theorem zk199_0 : zc199_0.all (zckop 199) = true := by decide +kernel
set_option maxRecDepth 100000 in
theorem zd199_1 : ∀ o ∈ zc199_1, decode prog_13_method_51_code o.1 = .ok (o.2.1, o.2.2.1) := by decide +kernel
set_option maxRecDepth 100000 in
theorem zk199_1 : zc199_1.all (zckop 199) = true := by decide +kernel
set_option maxRecDepth 100000 in
theorem zd199 : ∀ o ∈ zc199, decode (zby 199) o.1 = .ok (o.2.1, o.2.2.1) := List.forall_mem_append.mpr ⟨zd199_0, zd199_1⟩
set_option maxRecDepth 100000 in
theorem zk199 : zc199.all (zckop 199) = true := zallapp zk199_0 (zk199_1)
set_option maxRecDepth 100000 in
theorem zq199 : (∀ o ∈ zcode 199, decode (zby 199) o.1 = .ok (o.2.1, o.2.2.1)) ∧ (zcode 199).all (zckop 199) = true := ⟨zd199, zk199⟩
set_option maxRecDepth 100000 in
theorem zd200_0 : ∀ o ∈ zc200_0, decode prog_13_method_52_code o.1 = .ok (o.2.1, o.2.2.1) := by decide +kernel
set_option maxRecDepth 100000 in
theorem zk200_0 : zc200_0.all (zckop 200) = true := by decide +kernel
set_option maxRecDepth 100000 in
theorem zd200_1 : ∀ o ∈ zc200_1, decode prog_13_method_52_code o.1 = .ok (o.2.1, o.2.2.1) := by decide +kernel
set_option maxRecDepth 100000 in
theorem zk200_1 : zc200_1.all (zckop 200) = true := by decide +kernel
set_option maxRecDepth 100000 in
theorem zd200 : ∀ o ∈ zc200, decode (zby 200) o.1 = .ok (o.2.1, o.2.2.1) := List.forall_mem_append.mpr ⟨zd200_0, zd200_1⟩
set_option maxRecDepth 100000 in
theorem zk200 : zc200.all (zckop 200) = true := zallapp zk200_0 (zk200_1)
set_option maxRecDepth 100000 in
theorem zq200 : (∀ o ∈ zcode 200, decode (zby 200) o.1 = .ok (o.2.1, o.2.2.1)) ∧ (zcode 200).all (zckop 200) = true := ⟨zd200, zk200⟩
set_option maxRecDepth 100000 in
theorem zd201 : ∀ o ∈ zc201, decode (zby 201) o.1 = .ok (o.2.1, o.2.2.1) := by decide +kernel
set_option maxRecDepth 100000 in
theorem zk201 : zc201.all (zckop 201) = true := by decide +kernel
set_option maxRecDepth 100000 in
theorem zq201 : (∀ o ∈ zcode 201, decode (zby 201) o.1 = .ok (o.2.1, o.2.2.1)) ∧ (zcode 201).all (zckop 201) = true := ⟨zd201, zk201⟩
set_option maxRecDepth 100000 in
theorem zd202 : ∀ o ∈ zc202, decode (zby 202) o.1 = .ok (o.2.1, o.2.2.1) := by decide +kernel
set_option maxRecDepth 100000 in
theorem zk202 : zc202.all (zckop 202) = true := by decide +kernel
set_option maxRecDepth 100000 in
theorem zq202 : (∀ o ∈ zcode 202, decode (zby 202) o.1 = .ok (o.2.1, o.2.2.1)) ∧ (zcode 202).all (zckop 202) = true := ⟨zd202, zk202⟩
set_option maxRecDepth 100000 in
theorem zd203_0 : ∀ o ∈ zc203_0, decode prog_13_method_55_code o.1 = .ok (o.2.1, o.2.2.1) := by decide +kernel
set_option maxRecDepth 100000 in
theorem zk203_0 : zc203_0.all (zckop 203) = true := by decide +kernel
set_option maxRecDepth 100000 in
theorem zd203_1 : ∀ o ∈ zc203_1, decode prog_13_method_55_code o.1 = .ok (o.2.1, o.2.2.1) := by decide +kernel
set_option maxRecDepth 100000 in
theorem zk203_1 : zc203_1.all (zckop 203) = true := by decide +kernel
set_option maxRecDepth 100000 in
theorem zd203 : ∀ o ∈ zc203, decode (zby 203) o.1 = .ok (o.2.1, o.2.2.1) := List.forall_mem_append.mpr ⟨zd203_0, zd203_1⟩
set_option maxRecDepth 100000 in
theorem zk203 : zc203.all (zckop 203) = true := zallapp zk203_0 (zk203_1)
set_option maxRecDepth 100000 in
theorem zq203 : (∀ o ∈ zcode 203, decode (zby 203) o.1 = .ok (o.2.1, o.2.2.1)) ∧ (zcode 203).all (zckop 203) = true := ⟨zd203, zk203⟩
set_option maxRecDepth 100000 in
theorem zd204 : ∀ o ∈ zc204, decode (zby 204) o.1 = .ok (o.2.1, o.2.2.1) := by decide +kernel
set_option maxRecDepth 100000 in
theorem zk204 : zc204.all (zckop 204) = true := by decide +kernel
set_option maxRecDepth 100000 in
theorem zq204 : (∀ o ∈ zcode 204, decode (zby 204) o.1 = .ok (o.2.1, o.2.2.1)) ∧ (zcode 204).all (zckop 204) = true := ⟨zd204, zk204⟩
set_option maxRecDepth 100000 in
theorem zd205 : ∀ o ∈ zc205, decode (zby 205) o.1 = .ok (o.2.1, o.2.2.1) := by decide +kernel
set_option maxRecDepth 100000 in
theorem zk205 : zc205.all (zckop 205) = true := by decide +kernel
set_option maxRecDepth 100000 in
theorem zq205 : (∀ o ∈ zcode 205, decode (zby 205) o.1 = .ok (o.2.1, o.2.2.1)) ∧ (zcode 205).all (zckop 205) = true := ⟨zd205, zk205⟩
set_option maxRecDepth 100000 in
theorem zd206_0 : ∀ o ∈ zc206_0, decode prog_13_method_58_code o.1 = .ok (o.2.1, o.2.2.1) := by decide +kernel
set_option maxRecDepth 100000 in
theorem zk206_0 : zc206_0.all (zckop 206) = true := by decide +kernel
set_option maxRecDepth 100000 in
theorem zd206_1 : ∀ o ∈ zc206_1, decode prog_13_method_58_code o.1 = .ok (o.2.1, o.2.2.1) := by decide +kernel
set_option maxRecDepth 100000 in
theorem zk206_1 : zc206_1.all (zckop 206) = true := by decide +kernel
set_option maxRecDepth 100000 in
theorem zd206 : ∀ o ∈ zc206, decode (zby 206) o.1 = .ok (o.2.1, o.2.2.1) := List.forall_mem_append.mpr ⟨zd206_0, zd206_1⟩
set_option maxRecDepth 100000 in
theorem zk206 : zc206.all (zckop 206) = true := zallapp zk206_0 (zk206_1)
set_option maxRecDepth 100000 in
theorem zq206 : (∀ o ∈ zcode 206, decode (zby 206) o.1 = .ok (o.2.1, o.2.2.1)) ∧ (zcode 206).all (zckop 206) = true := ⟨zd206, zk206⟩
set_option maxRecDepth 100000 in
theorem zd207 : ∀ o ∈ zc207, decode (zby 207) o.1 = .ok (o.2.1, o.2.2.1) := by decide +kernel
set_option maxRecDepth 100000 in
theorem zk207 : zc207.all (zckop 207) = true := by decide +kernel
set_option maxRecDepth 100000 in
theorem zq207 : (∀ o ∈ zcode 207, decode (zby 207) o.1 = .ok (o.2.1, o.2.2.1)) ∧ (zcode 207).all (zckop 207) = true := ⟨zd207, zk207⟩
set_option maxRecDepth 100000 in
theorem zd208_0 : ∀ o ∈ zc208_0, decode prog_13_method_60_code o.1 = .ok (o.2.1, o.2.2.1) := by decide +kernel
set_option maxRecDepth 100000 in
theorem zk208_0 : zc208_0.all (zckop 208) = true := by decide +kernel
set_option maxRecDepth 100000 in
theorem zd208_1 : ∀ o ∈ zc208_1, decode prog_13_method_60_code o.1 = .ok (o.2.1, o.2.2.1) := by decide +kernel
set_option maxRecDepth 100000 in
theorem zk208_1 : zc208_1.all (zckop 208) = true := by decide +kernel
set_option maxRecDepth 100000 in
theorem zd208 : ∀ o ∈ zc208, decode (zby 208) o.1 = .ok (o.2.1, o.2.2.1) := List.forall_mem_append.mpr ⟨zd208_0, zd208_1⟩
set_option maxRecDepth 100000 in
theorem zk208 : zc208.all (zckop 208) = true := zallapp zk208_0 (zk208_1)
set_option maxRecDepth 100000 in
theorem zq208 : (∀ o ∈ zcode 208, decode (zby 208) o.1 = .ok (o.2.1, o.2.2.1)) ∧ (zcode 208).all (zckop 208) = true := ⟨zd208, zk208⟩
set_option maxRecDepth 100000 in
theorem zd209 : ∀ o ∈ zc209, decode (zby 209) o.1 = .ok (o.2.1, o.2.2.1) := by decide +kernel
set_option maxRecDepth 100000 in
theorem zk209 : zc209.all (zckop 209) = true := by decide +kernel
set_option maxRecDepth 100000 in
theorem zq209 : (∀ o ∈ zcode 209, decode (zby 209) o.1 = .ok (o.2.1, o.2.2.1)) ∧ (zcode 209).all (zckop 209) = true := ⟨zd209, zk209⟩
set_option maxRecDepth 100000 in
theorem zd210 : ∀ o ∈ zc210, decode (zby 210) o.1 = .ok (o.2.1, o.2.2.1) := by decide +kernel
set_option maxRecDepth 100000 in
theorem zk210 : zc210.all (zckop 210) = true := by decide +kernel
set_option maxRecDepth 100000 in
theorem zq210 : (∀ o ∈ zcode 210, decode (zby 210) o.1 = .ok (o.2.1, o.2.2.1)) ∧ (zcode 210).all (zckop 210) = true := ⟨zd210, zk210⟩
set_option maxRecDepth 100000 in
theorem zd211_0 : ∀ o ∈ zc211_0, decode prog_13_method_63_code o.1 = .ok (o.2.1, o.2.2.1) := by decide +kernel
set_option maxRecDepth 100000 in
theorem zk211_0 : zc211_0.all (zckop 211) = true := by decide +kernel
set_option maxRecDepth 100000 in
theorem zd211_1 : ∀ o ∈ zc211_1, decode prog_13_method_63_code o.1 = .ok (o.2.1, o.2.2.1) := by decide +kernel
set_option maxRecDepth 100000 in
theorem zk211_1 : zc211_1.all (zckop 211) = true := by decide +kernel
set_option maxRecDepth 100000 in
theorem zd211 : ∀ o ∈ zc211, decode (zby 211) o.1 = .ok (o.2.1, o.2.2.1) := List.forall_mem_append.mpr ⟨zd211_0, zd211_1⟩
set_option maxRecDepth 100000 in
theorem zk211 : zc211.all (zckop 211) = true := zallapp zk211_0 (zk211_1)
set_option maxRecDepth 100000 in
theorem zq211 : (∀ o ∈ zcode 211, decode (zby 211) o.1 = .ok (o.2.1, o.2.2.1)) ∧ (zcode 211).all (zckop 211) = true := ⟨zd211, zk211⟩
set_option maxRecDepth 100000 in
theorem zd212_0 : ∀ o ∈ zc212_0, decode prog_13_method_64_code o.1 = .ok (o.2.1, o.2.2.1) := by decide +kernel
set_option maxRecDepth 100000 in
theorem zk212_0 : zc212_0.all (zckop 212) = true := by decide +kernel
set_option maxRecDepth 100000 in
theorem zd212_1 : ∀ o ∈ zc212_1, decode prog_13_method_64_code o.1 = .ok (o.2.1, o.2.2.1) := by decide +kernel
set_option maxRecDepth 100000 in
theorem zk212_1 : zc212_1.all (zckop 212) = true := by decide +kernel
set_option maxRecDepth 100000 in
theorem zd212 : ∀ o ∈ zc212, decode (zby 212) o.1 = .ok (o.2.1, o.2.2.1) := List.forall_mem_append.mpr ⟨zd212_0, zd212_1⟩
set_option maxRecDepth 100000 in
theorem zk212 : zc212.all (zckop 212) = true := zallapp zk212_0 (zk212_1)
set_option maxRecDepth 100000 in
theorem zq212 : (∀ o ∈ zcode 212, decode (zby 212) o.1 = .ok (o.2.1, o.2.2.1)) ∧ (zcode 212).all (zckop 212) = true := ⟨zd212, zk212⟩
set_option maxRecDepth 100000 in
theorem zd213_0 : ∀ o ∈ zc213_0, decode prog_13_method_65_code o.1 = .ok (o.2.1, o.2.2.1) := by decide +kernel
set_option maxRecDepth 100000 in
theorem zk213_0 : zc213_0.all (zckop 213) = true := by decide +kernel
set_option maxRecDepth 100000 in
theorem zd213_1 : ∀ o ∈ zc213_1, decode prog_13_method_65_code o.1 = .ok (o.2.1, o.2.2.1) := by decide +kernel
set_option maxRecDepth 100000 in
theorem zk213_1 : zc213_1.all (zckop 213) = true := by decide +kernel
set_option maxRecDepth 100000 in
theorem zd213 : ∀ o ∈ zc213, decode (zby 213) o.1 = .ok (o.2.1, o.2.2.1) := List.forall_mem_append.mpr ⟨zd213_0, zd213_1⟩
set_option maxRecDepth 100000 in
theorem zk213 : zc213.all (zckop 213) = true := zallapp zk213_0 (zk213_1)
set_option maxRecDepth 100000 in
theorem zq213 : (∀ o ∈ zcode 213, decode (zby 213) o.1 = .ok (o.2.1, o.2.2.1)) ∧ (zcode 213).all (zckop 213) = true := ⟨zd213, zk213⟩
set_option maxRecDepth 100000 in
theorem zd214_0 : ∀ o ∈ zc214_0, decode prog_13_method_66_code o.1 = .ok (o.2.1, o.2.2.1) := by decide +kernel
set_option maxRecDepth 100000 in
theorem zk214_0 : zc214_0.all (zckop 214) = true := by decide +kernel
set_option maxRecDepth 100000 in
theorem zd214_1 : ∀ o ∈ zc214_1, decode prog_13_method_66_code o.1 = .ok (o.2.1, o.2.2.1) := by decide +kernel
set_option maxRecDepth 100000 in
theorem zk214_1 : zc214_1.all (zckop 214) = true := by decide +kernel
set_option maxRecDepth 100000 in
theorem zd214 : ∀ o ∈ zc214, decode (zby 214) o.1 = .ok (o.2.1, o.2.2.1) := List.forall_mem_append.mpr ⟨zd214_0, zd214_1⟩
set_option maxRecDepth 100000 in
theorem zk214 : zc214.all (zckop 214) = true := zallapp zk214_0 (zk214_1)
set_option maxRecDepth 100000 in
theorem zq214 : (∀ o ∈ zcode 214, decode (zby 214) o.1 = .ok (o.2.1, o.2.2.1)) ∧ (zcode 214).all (zckop 214) = true := ⟨zd214, zk214⟩
set_option maxRecDepth 100000 in
theorem zd215 : ∀ o ∈ zc215, decode (zby 215) o.1 = .ok (o.2.1, o.2.2.1) := by decide +kernel
set_option maxRecDepth 100000 in
theorem zk215 : zc215.all (zckop 215) = true := by decide +kernel
set_option maxRecDepth 100000 in
theorem zq215 : (∀ o ∈ zcode 215, decode (zby 215) o.1 = .ok (o.2.1, o.2.2.1)) ∧ (zcode 215).all (zckop 215) = true := ⟨zd215, zk215⟩
set_option maxRecDepth 100000 in
theorem zd216 : ∀ o ∈ zc216, decode (zby 216) o.1 = .ok (o.2.1, o.2.2.1) := by decide +kernel
set_option maxRecDepth 100000 in
theorem zk216 : zc216.all (zckop 216) = true := by decide +kernel
set_option maxRecDepth 100000 in
theorem zq216 : (∀ o ∈ zcode 216, decode (zby 216) o.1 = .ok (o.2.1, o.2.2.1)) ∧ (zcode 216).all (zckop 216) = true := ⟨zd216, zk216⟩
set_option maxRecDepth 100000 in
theorem zd217 : ∀ o ∈ zc217, decode (zby 217) o.1 = .ok (o.2.1, o.2.2.1) := by decide +kernel
set_option maxRecDepth 100000 in
theorem zk217 : zc217.all (zckop 217) = true := by decide +kernel
set_option maxRecDepth 100000 in
theorem zq217 : (∀ o ∈ zcode 217, decode (zby 217) o.1 = .ok (o.2.1, o.2.2.1)) ∧ (zcode 217).all (zckop 217) = true := ⟨zd217, zk217⟩
set_option maxRecDepth 100000 in
theorem zd218_0 : ∀ o ∈ zc218_0, decode prog_13_method_70_code o.1 = .ok (o.2.1, o.2.2.1) := by decide +kernel
set_option maxRecDepth 100000 in
theorem zk218_0 : zc218_0.all (zckop 218) = true := by decide +kernel
set_option maxRecDepth 100000 in
theorem zd218_1 : ∀ o ∈ zc218_1, decode prog_13_method_70_code o.1 = .ok (o.2.1, o.2.2.1) := by decide +kernel
set_option maxRecDepth 100000 in
theorem zk218_1 : zc218_1.all (zckop 218) = true := by decide +kernel
set_option maxRecDepth 100000 in
theorem zd218 : ∀ o ∈ zc218, decode (zby 218) o.1 = .ok (o.2.1, o.2.2.1) := List.forall_mem_append.mpr ⟨zd218_0, zd218_1⟩
set_option maxRecDepth 100000 in
theorem zk218 : zc218.all (zckop 218) = true := zallapp zk218_0 (zk218_1)
set_option maxRecDepth 100000 in
theorem zq218 : (∀ o ∈ zcode 218, decode (zby 218) o.1 = .ok (o.2.1, o.2.2.1)) ∧ (zcode 218).all (zckop 218) = true := ⟨zd218, zk218⟩
set_option maxRecDepth 100000 in
theorem zd219 : ∀ o ∈ zc219, decode (zby 219) o.1 = .ok (o.2.1, o.2.2.1) := by decide +kernel
set_option maxRecDepth 100000 in
theorem zk219 : zc219.all (zckop 219) = true := by decide +kernel
set_option maxRecDepth 100000 in
theorem zq219 : (∀ o ∈ zcode 219, decode (zby 219) o.1 = .ok (o.2.1, o.2.2.1)) ∧ (zcode 219).all (zckop 219) = true := ⟨zd219, zk219⟩
set_option maxRecDepth 100000 in
theorem zd220 : ∀ o ∈ zc220, decode (zby 220) o.1 = .ok (o.2.1, o.2.2.1) := by decide +kernel
set_option maxRecDepth 100000 in
theorem zk220 : zc220.all (zckop 220) = true := by decide +kernel
set_option maxRecDepth 100000 in
theorem zq220 : (∀ o ∈ zcode 220, decode (zby 220) o.1 = .ok (o.2.1, o.2.2.1)) ∧ (zcode 220).all (zckop 220) = true := ⟨zd220, zk220⟩
set_option maxRecDepth 100000 in
theorem zd221 : ∀ o ∈ zc221, decode (zby 221) o.1 = .ok (o.2.1, o.2.2.1) := by decide +kernel
set_option maxRecDepth 100000 in
theorem zk221 : zc221.all (zckop 221) = true := by decide +kernel
set_option maxRecDepth 100000 in
theorem zq221 : (∀ o ∈ zcode 221, decode (zby 221) o.1 = .ok (o.2.1, o.2.2.1)) ∧ (zcode 221).all (zckop 221) = true := ⟨zd221, zk221⟩
set_option maxRecDepth 100000 in
theorem zd222 : ∀ o ∈ zc222, decode (zby 222) o.1 = .ok (o.2.1, o.2.2.1) := by decide +kernel
set_option maxRecDepth 100000 in
theorem zk222 : zc222.all (zckop 222) = true := by decide +kernel
set_option maxRecDepth 100000 in
theorem zq222 : (∀ o ∈ zcode 222, decode (zby 222) o.1 = .ok (o.2.1, o.2.2.1)) ∧ (zcode 222).all (zckop 222) = true := ⟨zd222, zk222⟩
set_option maxRecDepth 100000 in
theorem zd223 : ∀ o ∈ zc223, decode (zby 223) o.1 = .ok (o.2.1, o.2.2.1) := by decide +kernel
set_option maxRecDepth 100000 in
theorem zk223 : zc223.all (zckop 223) = true := by decide +kernel
set_option maxRecDepth 100000 in
theorem zq223 : (∀ o ∈ zcode 223, decode (zby 223) o.1 = .ok (o.2.1, o.2.2.1)) ∧ (zcode 223).all (zckop 223) = true := ⟨zd223, zk223⟩
set_option maxRecDepth 100000 in
theorem zd224 : ∀ o ∈ zc224, decode (zby 224) o.1 = .ok (o.2.1, o.2.2.1) := by decide +kernel
set_option maxRecDepth 100000 in
theorem zk224 : zc224.all (zckop 224) = true := by decide +kernel
set_option maxRecDepth 100000 in
theorem zq224 : (∀ o ∈ zcode 224, decode (zby 224) o.1 = .ok (o.2.1, o.2.2.1)) ∧ (zcode 224).all (zckop 224) = true := ⟨zd224, zk224⟩
set_option maxRecDepth 100000 in
theorem zd225 : ∀ o ∈ zc225, decode (zby 225) o.1 = .ok (o.2.1, o.2.2.1) := by decide +kernel
set_option maxRecDepth 100000 in
theorem zk225 : zc225.all (zckop 225) = true := by decide +kernel
set_option maxRecDepth 100000 in
theorem zq225 : (∀ o ∈ zcode 225, decode (zby 225) o.1 = .ok (o.2.1, o.2.2.1)) ∧ (zcode 225).all (zckop 225) = true := ⟨zd225, zk225⟩
set_option maxRecDepth 100000 in
theorem zd226 : ∀ o ∈ zc226, decode (zby 226) o.1 = .ok (o.2.1, o.2.2.1) := by decide +kernel
set_option maxRecDepth 100000 in
theorem zk226 : zc226.all (zckop 226) = true := by decide +kernel
set_option maxRecDepth 100000 in
theorem zq226 : (∀ o ∈ zcode 226, decode (zby 226) o.1 = .ok (o.2.1, o.2.2.1)) ∧ (zcode 226).all (zckop 226) = true := ⟨zd226, zk226⟩
set_option maxRecDepth 100000 in
theorem zd227 : ∀ o ∈ zc227, decode (zby 227) o.1 = .ok (o.2.1, o.2.2.1) := by decide +kernel
set_option maxRecDepth 100000 in
theorem zk227 : zc227.all (zckop 227) = true := by decide +kernel
set_option maxRecDepth 100000 in
theorem zq227 : (∀ o ∈ zcode 227, decode (zby 227) o.1 = .ok (o.2.1, o.2.2.1)) ∧ (zcode 227).all (zckop 227) = true := ⟨zd227, zk227⟩
set_option maxRecDepth 100000 in
theorem zd228 : ∀ o ∈ zc228, decode (zby 228) o.1 = .ok (o.2.1, o.2.2.1) := by decide +kernel
set_option maxRecDepth 100000 in
theorem zk228 : zc228.all (zckop 228) = true := by decide +kernel
set_option maxRecDepth 100000 in
theorem zq228 : (∀ o ∈ zcode 228, decode (zby 228) o.1 = .ok (o.2.1, o.2.2.1)) ∧ (zcode 228).all (zckop 228) = true := ⟨zd228, zk228⟩
set_option maxRecDepth 100000 in
theorem zd229 : ∀ o ∈ zc229, decode (zby 229) o.1 = .ok (o.2.1, o.2.2.1) := by decide +kernel
set_option maxRecDepth 100000 in
theorem zk229 : zc229.all (zckop 229) = true := by decide +kernel
set_option maxRecDepth 100000 in
theorem zq229 : (∀ o ∈ zcode 229, decode (zby 229) o.1 = .ok (o.2.1, o.2.2.1)) ∧ (zcode 229).all (zckop 229) = true := ⟨zd229, zk229⟩
set_option maxRecDepth 100000 in
theorem zd230 : ∀ o ∈ zc230, decode (zby 230) o.1 = .ok (o.2.1, o.2.2.1) := by decide +kernel
set_option maxRecDepth 100000 in
theorem zk230 : zc230.all (zckop 230) = true := by decide +kernel
set_option maxRecDepth 100000 in
theorem zq230 : (∀ o ∈ zcode 230, decode (zby 230) o.1 = .ok (o.2.1, o.2.2.1)) ∧ (zcode 230).all (zckop 230) = true := ⟨zd230, zk230⟩
set_option maxRecDepth 100000 in
theorem zd231 : ∀ o ∈ zc231, decode (zby 231) o.1 = .ok (o.2.1, o.2.2.1) := by decide +kernel
set_option maxRecDepth 100000 in
theorem zk231 : zc231.all (zckop 231) = true := by decide +kernel
set_option maxRecDepth 100000 in
theorem zq231 : (∀ o ∈ zcode 231, decode (zby 231) o.1 = .ok (o.2.1, o.2.2.1)) ∧ (zcode 231).all (zckop 231) = true := ⟨zd231, zk231⟩
set_option maxRecDepth 100000 in
theorem zd232 : ∀ o ∈ zc232, decode (zby 232) o.1 = .ok (o.2.1, o.2.2.1) := by decide +kernel
set_option maxRecDepth 100000 in
theorem zk232 : zc232.all (zckop 232) = true := by decide +kernel
set_option maxRecDepth 100000 in
theorem zq232 : (∀ o ∈ zcode 232, decode (zby 232) o.1 = .ok (o.2.1, o.2.2.1)) ∧ (zcode 232).all (zckop 232) = true := ⟨zd232, zk232⟩
set_option maxRecDepth 100000 in
theorem zd233 : ∀ o ∈ zc233, decode (zby 233) o.1 = .ok (o.2.1, o.2.2.1) := by decide +kernel
set_option maxRecDepth 100000 in
theorem zk233 : zc233.all (zckop 233) = true := by decide +kernel
set_option maxRecDepth 100000 in
theorem zq233 : (∀ o ∈ zcode 233, decode (zby 233) o.1 = .ok (o.2.1, o.2.2.1)) ∧ (zcode 233).all (zckop 233) = true := ⟨zd233, zk233⟩
set_option maxRecDepth 100000 in
theorem zd234 : ∀ o ∈ zc234, decode (zby 234) o.1 = .ok (o.2.1, o.2.2.1) := by decide +kernel
set_option maxRecDepth 100000 in
theorem zk234 : zc234.all (zckop 234) = true := by decide +kernel
set_option maxRecDepth 100000 in
theorem zq234 : (∀ o ∈ zcode 234, decode (zby 234) o.1 = .ok (o.2.1, o.2.2.1)) ∧ (zcode 234).all (zckop 234) = true := ⟨zd234, zk234⟩
set_option maxRecDepth 100000 in
theorem zd235 : ∀ o ∈ zc235, decode (zby 235) o.1 = .ok (o.2.1, o.2.2.1) := by decide +kernel
set_option maxRecDepth 100000 in
theorem zk235 : zc235.all (zckop 235) = true := by decide +kernel
set_option maxRecDepth 100000 in
theorem zq235 : (∀ o ∈ zcode 235, decode (zby 235) o.1 = .ok (o.2.1, o.2.2.1)) ∧ (zcode 235).all (zckop 235) = true := ⟨zd235, zk235⟩
set_option maxRecDepth 100000 in
theorem zd236 : ∀ o ∈ zc236, decode (zby 236) o.1 = .ok (o.2.1, o.2.2.1) := by decide +kernel
set_option maxRecDepth 100000 in
theorem zk236 : zc236.all (zckop 236) = true := by decide +kernel
set_option maxRecDepth 100000 in
theorem zq236 : (∀ o ∈ zcode 236, decode (zby 236) o.1 = .ok (o.2.1, o.2.2.1)) ∧ (zcode 236).all (zckop 236) = true := ⟨zd236, zk236⟩
set_option maxRecDepth 100000 in
theorem zd237_0 : ∀ o ∈ zc237_0, decode prog_13_method_89_code o.1 = .ok (o.2.1, o.2.2.1) := by decide +kernel
set_option maxRecDepth 100000 in
theorem zk237_0 : zc237_0.all (zckop 237) = true := by decide +kernel
set_option maxRecDepth 100000 in
theorem zd237_1 : ∀ o ∈ zc237_1, decode prog_13_method_89_code o.1 = .ok (o.2.1, o.2.2.1) := by decide +kernel
set_option maxRecDepth 100000 in
theorem zk237_1 : zc237_1.all (zckop 237) = true := by decide +kernel
set_option maxRecDepth 100000 in
theorem zd237 : ∀ o ∈ zc237, decode (zby 237) o.1 = .ok (o.2.1, o.2.2.1) := List.forall_mem_append.mpr ⟨zd237_0, zd237_1⟩
set_option maxRecDepth 100000 in
theorem zk237 : zc237.all (zckop 237) = true := zallapp zk237_0 (zk237_1)
set_option maxRecDepth 100000 in
theorem zq237 : (∀ o ∈ zcode 237, decode (zby 237) o.1 = .ok (o.2.1, o.2.2.1)) ∧ (zcode 237).all (zckop 237) = true := ⟨zd237, zk237⟩
set_option maxRecDepth 100000 in
theorem zd238 : ∀ o ∈ zc238, decode (zby 238) o.1 = .ok (o.2.1, o.2.2.1) := by decide +kernel
set_option maxRecDepth 100000 in
theorem zk238 : zc238.all (zckop 238) = true := by decide +kernel
set_option maxRecDepth 100000 in
theorem zq238 : (∀ o ∈ zcode 238, decode (zby 238) o.1 = .ok (o.2.1, o.2.2.1)) ∧ (zcode 238).all (zckop 238) = true := ⟨zd238, zk238⟩
set_option maxRecDepth 100000 in
theorem zd239 : ∀ o ∈ zc239, decode (zby 239) o.1 = .ok (o.2.1, o.2.2.1) := by decide +kernel
set_option maxRecDepth 100000 in
theorem zk239 : zc239.all (zckop 239) = true := by decide +kernel
set_option maxRecDepth 100000 in
theorem zq239 : (∀ o ∈ zcode 239, decode (zby 239) o.1 = .ok (o.2.1, o.2.2.1)) ∧ (zcode 239).all (zckop 239) = true := ⟨zd239, zk239⟩
set_option maxRecDepth 100000 in
theorem zd240 : ∀ o ∈ zc240, decode (zby 240) o.1 = .ok (o.2.1, o.2.2.1) := by decide +kernel
set_option maxRecDepth 100000 in
theorem zk240 : zc240.all (zckop 240) = true := by decide +kernel
set_option maxRecDepth 100000 in
theorem zq240 : (∀ o ∈ zcode 240, decode (zby 240) o.1 = .ok (o.2.1, o.2.2.1)) ∧ (zcode 240).all (zckop 240) = true := ⟨zd240, zk240⟩
set_option maxRecDepth 100000 in
theorem zd241 : ∀ o ∈ zc241, decode (zby 241) o.1 = .ok (o.2.1, o.2.2.1) := by decide +kernel
set_option maxRecDepth 100000 in
theorem zk241 : zc241.all (zckop 241) = true := by decide +kernel
set_option maxRecDepth 100000 in
theorem zq241 : (∀ o ∈ zcode 241, decode (zby 241) o.1 = .ok (o.2.1, o.2.2.1)) ∧ (zcode 241).all (zckop 241) = true := ⟨zd241, zk241⟩
set_option maxRecDepth 100000 in
theorem zd242 : ∀ o ∈ zc242, decode (zby 242) o.1 = .ok (o.2.1, o.2.2.1) := by decide +kernel
set_option maxRecDepth 100000 in
theorem zk242 : zc242.all (zckop 242) = true := by decide +kernel
set_option maxRecDepth 100000 in
theorem zq242 : (∀ o ∈ zcode 242, decode (zby 242) o.1 = .ok (o.2.1, o.2.2.1)) ∧ (zcode 242).all (zckop 242) = true := ⟨zd242, zk242⟩
set_option maxRecDepth 100000 in
theorem zql200 : ∀ M, M < 200 → (∀ o ∈ zcode M, decode (zby M) o.1 = .ok (o.2.1, o.2.2.1)) ∧ (zcode M).all (zckop M) = true := lt_s (lt_s (lt_s (lt_s (lt_s (lt_s (lt_s (lt_s (lt_s (lt_s (lt_s (lt_s (lt_s (lt_s (lt_s (lt_s (lt_s (lt_s (lt_s (lt_s (lt_s (lt_s (lt_s (lt_s (lt_s (lt_s (lt_s (lt_s (lt_s (lt_s (lt_s (lt_s (lt_s (lt_s (lt_s (lt_s (lt_s (lt_s (lt_s (lt_s (zql160) zq160) zq161) zq162) zq163) zq164) zq165) zq166) zq167) zq168) zq169) zq170) zq171) zq172) zq173) zq174) zq175) zq176) zq177) zq178) zq179) zq180) zq181) zq182) zq183) zq184) zq185) zq186) zq187) zq188) zq189) zq190) zq191) zq192) zq193) zq194) zq195) zq196) zq197) zq198) zq199
set_option maxRecDepth 100000 in
theorem zql240 : ∀ M, M < 240 → (∀ o ∈ zcode M, decode (zby M) o.1 = .ok (o.2.1, o.2.2.1)) ∧ (zcode M).all (zckop M) = true := lt_s (lt_s (lt_s (lt_s (lt_s (lt_s (lt_s (lt_s (lt_s (lt_s (lt_s (lt_s (lt_s (lt_s (lt_s (lt_s (lt_s (lt_s (lt_s (lt_s (lt_s (lt_s (lt_s (lt_s (lt_s (lt_s (lt_s (lt_s (lt_s (lt_s (lt_s (lt_s (lt_s (lt_s (lt_s (lt_s (lt_s (lt_s (lt_s (lt_s (zql200) zq200) zq201) zq202) zq203) zq204) zq205) zq206) zq207) zq208) zq209) zq210) zq211) zq212) zq213) zq214) zq215) zq216) zq217) zq218) zq219) zq220) zq221) zq222) zq223) zq224) zq225) zq226) zq227) zq228) zq229) zq230) zq231) zq232) zq233) zq234) zq235) zq236) zq237) zq238) zq239
set_option maxRecDepth 100000 in
theorem zql243 : ∀ M, M < 243 → (∀ o ∈ zcode M, decode (zby M) o.1 = .ok (o.2.1, o.2.2.1)) ∧ (zcode M).all (zckop M) = true := lt_s (lt_s (lt_s (zql240) zq240) zq241) zq242
