set_option maxRecDepth 100000 in
theorem zd80 : ∀ o ∈ zc80, decode (zby 80) o.1 = .ok (o.2.1, o.2.2.1) := by decide +kernel
set_option maxRecDepth 100000 in
theorem zk80 : zc80.all (zckop 80) = true := by decide +kernel
set_option maxRecDepth 100000 in
theorem zq80 : (∀ o ∈ zcode 80, decode (zby 80) o.1 = .ok (o.2.1, o.2.2.1)) ∧ (zcode 80).all (zckop 80) = true := ⟨zd80, zk80⟩
set_option maxRecDepth 100000 in
theorem zd81 : ∀ o ∈ zc81, decode (zby 81) o.1 = .ok (o.2.1, o.2.2.1) := by decide +kernel
set_option maxRecDepth 100000 in
theorem zk81 : zc81.all (zckop 81) = true := by decide +kernel
set_option maxRecDepth 100000 in
theorem zq81 : (∀ o ∈ zcode 81, decode (zby 81) o.1 = .ok (o.2.1, o.2.2.1)) ∧ (zcode 81).all (zckop 81) = true := ⟨zd81, zk81⟩
set_option maxRecDepth 100000 in
theorem zd82 : ∀ o ∈ zc82, decode (zby 82) o.1 = .ok (o.2.1, o.2.2.1) := by decide +kernel
set_option maxRecDepth 100000 in
theorem zk82 : zc82.all (zckop 82) = true := by decide +kernel
set_option maxRecDepth 100000 in
theorem zq82 : (∀ o ∈ zcode 82, decode (zby 82) o.1 = .ok (o.2.1, o.2.2.1)) ∧ (zcode 82).all (zckop 82) = true := ⟨zd82, zk82⟩
set_option maxRecDepth 100000 in
theorem zd83 : ∀ o ∈ zc83, decode (zby 83) o.1 = .ok (o.2.1, o.2.2.1) := by decide +kernel
set_option maxRecDepth 100000 in
theorem zk83 : zc83.all (zckop 83) = true := by decide +kernel
set_option maxRecDepth 100000 in
theorem zq83 : (∀ o ∈ zcode 83, decode (zby 83) o.1 = .ok (o.2.1, o.2.2.1)) ∧ (zcode 83).all (zckop 83) = true := ⟨zd83, zk83⟩
set_option maxRecDepth 100000 in
theorem zd84 : ∀ o ∈ zc84, decode (zby 84) o.1 = .ok (o.2.1, o.2.2.1) := by decide +kernel
set_option maxRecDepth 100000 in
theorem zk84 : zc84.all (zckop 84) = true := by decide +kernel
set_option maxRecDepth 100000 in
theorem zq84 : (∀ o ∈ zcode 84, decode (zby 84) o.1 = .ok (o.2.1, o.2.2.1)) ∧ (zcode 84).all (zckop 84) = true := ⟨zd84, zk84⟩
set_option maxRecDepth 100000 in
theorem zd85 : ∀ o ∈ zc85, decode (zby 85) o.1 = .ok (o.2.1, o.2.2.1) := by decide +kernel
set_option maxRecDepth 100000 in
theorem zk85 : zc85.all (zckop 85) = true := by decide +kernel
set_option maxRecDepth 100000 in
theorem zq85 : (∀ o ∈ zcode 85, decode (zby 85) o.1 = .ok (o.2.1, o.2.2.1)) ∧ (zcode 85).all (zckop 85) = true := ⟨zd85, zk85⟩
set_option maxRecDepth 100000 in
theorem zd86 : ∀ o ∈ zc86, decode (zby 86) o.1 = .ok (o.2.1, o.2.2.1) := by decide +kernel
set_option maxRecDepth 100000 in
theorem zk86 : zc86.all (zckop 86) = true := by decide +kernel
set_option maxRecDepth 100000 in
theorem zq86 : (∀ o ∈ zcode 86, decode (zby 86) o.1 = .ok (o.2.1, o.2.2.1)) ∧ (zcode 86).all (zckop 86) = true := ⟨zd86, zk86⟩
set_option maxRecDepth 100000 in
theorem zd87_0 : ∀ o ∈ zc87_0, decode prog_10_method_14_code o.1 = .ok (o.2.1, o.2.2.1) := by decide +kernel
set_option maxRecDepth 100000 in
theorem zk87_0 : zc87_0.all (zckop 87) = true := by decide +kernel
set_option maxRecDepth 100000 in
theorem zd87_1 : ∀ o ∈ zc87_1, decode prog_10_method_14_code o.1 = .ok (o.2.1, o.2.2.1) := by decide +kernel
set_option maxRecDepth 100000 in
theorem zk87_1 : zc87_1.all (zckop 87) = true := by decide +kernel
set_option maxRecDepth 100000 in
theorem zd87 : ∀ o ∈ zc87, decode (zby 87) o.1 = .ok (o.2.1, o.2.2.1) := List.forall_mem_append.mpr ⟨zd87_0, zd87_1⟩
set_option maxRecDepth 100000 in
theorem zk87 : zc87.all (zckop 87) = true := zallapp zk87_0 (zk87_1)
set_option maxRecDepth 100000 in
theorem zq87 : (∀ o ∈ zcode 87, decode (zby 87) o.1 = .ok (o.2.1, o.2.2.1)) ∧ (zcode 87).all (zckop 87) = true := ⟨zd87, zk87⟩
set_option maxRecDepth 100000 in
theorem zd88 : ∀ o ∈ zc88, decode (zby 88) o.1 = .ok (o.2.1, o.2.2.1) := by decide +kernel
set_option maxRecDepth 100000 in
theorem zk88 : zc88.all (zckop 88) = true := by decide +kernel
set_option maxRecDepth 100000 in
theorem zq88 : (∀ o ∈ zcode 88, decode (zby 88) o.1 = .ok (o.2.1, o.2.2.1)) ∧ (zcode 88).all (zckop 88) = true := ⟨zd88, zk88⟩
set_option maxRecDepth 100000 in
theorem zd89 : ∀ o ∈ zc89, decode (zby 89) o.1 = .ok (o.2.1, o.2.2.1) := by decide +kernel
set_option maxRecDepth 100000 in
theorem zk89 : zc89.all (zckop 89) = true := by decide +kernel
set_option maxRecDepth 100000 in
theorem zq89 : (∀ o ∈ zcode 89, decode (zby 89) o.1 = .ok (o.2.1, o.2.2.1)) ∧ (zcode 89).all (zckop 89) = true := ⟨zd89, zk89⟩
set_option maxRecDepth 100000 in
theorem zd90 : ∀ o ∈ zc90, decode (zby 90) o.1 = .ok (o.2.1, o.2.2.1) := by decide +kernel
set_option maxRecDepth 100000 in
theorem zk90 : zc90.all (zckop 90) = true := by decide +kernel
set_option maxRecDepth 100000 in
theorem zq90 : (∀ o ∈ zcode 90, decode (zby 90) o.1 = .ok (o.2.1, o.2.2.1)) ∧ (zcode 90).all (zckop 90) = true := ⟨zd90, zk90⟩
set_option maxRecDepth 100000 in
theorem zd91 : ∀ o ∈ zc91, decode (zby 91) o.1 = .ok (o.2.1, o.2.2.1) := by decide +kernel
set_option maxRecDepth 100000 in
theorem zk91 : zc91.all (zckop 91) = true := by decide +kernel
set_option maxRecDepth 100000 in
theorem zq91 : (∀ o ∈ zcode 91, decode (zby 91) o.1 = .ok (o.2.1, o.2.2.1)) ∧ (zcode 91).all (zckop 91) = true := ⟨zd91, zk91⟩
set_option maxRecDepth 100000 in
theorem zd92 : ∀ o ∈ zc92, decode (zby 92) o.1 = .ok (o.2.1, o.2.2.1) := by decide +kernel
set_option maxRecDepth 100000 in
theorem zk92 : zc92.all (zckop 92) = true := by decide +kernel
set_option maxRecDepth 100000 in
theorem zq92 : (∀ o ∈ zcode 92, decode (zby 92) o.1 = .ok (o.2.1, o.2.2.1)) ∧ (zcode 92).all (zckop 92) = true := ⟨zd92, zk92⟩
set_option maxRecDepth 100000 in
theorem zd93 : ∀ o ∈ zc93, decode (zby 93) o.1 = .ok (o.2.1, o.2.2.1) := by decide +kernel
set_option maxRecDepth 100000 in
theorem zk93 : zc93.all (zckop 93) = true := by decide +kernel
set_option maxRecDepth 100000 in
theorem zq93 : (∀ o ∈ zcode 93, decode (zby 93) o.1 = .ok (o.2.1, o.2.2.1)) ∧ (zcode 93).all (zckop 93) = true := ⟨zd93, zk93⟩
set_option maxRecDepth 100000 in
theorem zd94 : ∀ o ∈ zc94, decode (zby 94) o.1 = .ok (o.2.1, o.2.2.1) := by decide +kernel
set_option maxRecDepth 100000 in
theorem zk94 : zc94.all (zckop 94) = true := by decide +kernel
set_option maxRecDepth 100000 in
theorem zq94 : (∀ o ∈ zcode 94, decode (zby 94) o.1 = .ok (o.2.1, o.2.2.1)) ∧ (zcode 94).all (zckop 94) = true := ⟨zd94, zk94⟩
set_option maxRecDepth 100000 in
theorem zd95 : ∀ o ∈ zc95, decode (zby 95) o.1 = .ok (o.2.1, o.2.2.1) := by decide +kernel
set_option maxRecDepth 100000 in
theorem zk95 : zc95.all (zckop 95) = true := by decide +kernel
set_option maxRecDepth 100000 in
theorem zq95 : (∀ o ∈ zcode 95, decode (zby 95) o.1 = .ok (o.2.1, o.2.2.1)) ∧ (zcode 95).all (zckop 95) = true := ⟨zd95, zk95⟩
set_option maxRecDepth 100000 in
theorem zd96 : ∀ o ∈ zc96, decode (zby 96) o.1 = .ok (o.2.1, o.2.2.1) := by decide +kernel
set_option maxRecDepth 100000 in
theorem zk96 : zc96.all (zckop 96) = true := by decide +kernel
set_option maxRecDepth 100000 in
theorem zq96 : (∀ o ∈ zcode 96, decode (zby 96) o.1 = .ok (o.2.1, o.2.2.1)) ∧ (zcode 96).all (zckop 96) = true := ⟨zd96, zk96⟩
set_option maxRecDepth 100000 in
theorem zd97_0 : ∀ o ∈ zc97_0, decode prog_11_method_10_code o.1 = .ok (o.2.1, o.2.2.1) := by decide +kernel
set_option maxRecDepth 100000 in
theorem zk97_0 : zc97_0.all (zckop 97) = true := by decide +kernel
set_option maxRecDepth 100000 in
theorem zd97_1 : ∀ o ∈ zc97_1, decode prog_11_method_10_code o.1 = .ok (o.2.1, o.2.2.1) := by decide +kernel
set_option maxRecDepth 100000 in
theorem zk97_1 : zc97_1.all (zckop 97) = true := by decide +kernel
set_option maxRecDepth 100000 in
theorem zd97_2 : ∀ o ∈ zc97_2, decode prog_11_method_10_code o.1 = .ok (o.2.1, o.2.2.1) := by decide +kernel
set_option maxRecDepth 100000 in
theorem zk97_2 : zc97_2.all (zckop 97) = true := by decide +kernel
set_option maxRecDepth 100000 in
theorem zd97 : ∀ o ∈ zc97, decode (zby 97) o.1 = .ok (o.2.1, o.2.2.1) := List.forall_mem_append.mpr ⟨zd97_0, List.forall_mem_append.mpr ⟨zd97_1, zd97_2⟩⟩
set_option maxRecDepth 100000 in
theorem zk97 : zc97.all (zckop 97) = true := zallapp zk97_0 (zallapp zk97_1 (zk97_2))
set_option maxRecDepth 100000 in
theorem zq97 : (∀ o ∈ zcode 97, decode (zby 97) o.1 = .ok (o.2.1, o.2.2.1)) ∧ (zcode 97).all (zckop 97) = true := ⟨zd97, zk97⟩
set_option maxRecDepth 100000 in
theorem zd98_0 : ∀ o ∈ zc98_0, decode prog_1_method_1_code o.1 = .ok (o.2.1, o.2.2.1) := by decide +kernel
set_option maxRecDepth 100000 in
theorem zk98_0 : zc98_0.all (zckop 98) = true := by decide +kernel
set_option maxRecDepth 100000 in
theorem zd98_1 : ∀ o ∈ zc98_1, decode prog_1_method_1_code o.1 = .ok (o.2.1, o.2.2.1) := by decide +kernel
set_option maxRecDepth 100000 in
theorem zk98_1 : zc98_1.all (zckop 98) = true := by decide +kernel
set_option maxRecDepth 100000 in
theorem zd98 : ∀ o ∈ zc98, decode (zby 98) o.1 = .ok (o.2.1, o.2.2.1) := List.forall_mem_append.mpr ⟨zd98_0, zd98_1⟩
set_option maxRecDepth 100000 in
theorem zk98 : zc98.all (zckop 98) = true := zallapp zk98_0 (zk98_1)
set_option maxRecDepth 100000 in
theorem zq98 : (∀ o ∈ zcode 98, decode (zby 98) o.1 = .ok (o.2.1, o.2.2.1)) ∧ (zcode 98).all (zckop 98) = true := ⟨zd98, zk98⟩
set_option maxRecDepth 100000 in
theorem zd99 : ∀ o ∈ zc99, decode (zby 99) o.1 = .ok (o.2.1, o.2.2.1) := by decide +kernel
set_option maxRecDepth 100000 in
theorem zk99 : zc99.all (zckop 99) = true := by decide +kernel
set_option maxRecDepth 100000 in
theorem zq99 : (∀ o ∈ zcode 99, decode (zby 99) o.1 = .ok (o.2.1, o.2.2.1)) ∧ (zcode 99).all (zckop 99) = true := ⟨zd99, zk99⟩
set_option maxRecDepth 100000 in
theorem zd100 : ∀ o ∈ zc100, decode (zby 100) o.1 = .ok (o.2.1, o.2.2.1) := by decide +kernel
set_option maxRecDepth 100000 in
theorem zk100 : zc100.all (zckop 100) = true := by decide +kernel
set_option maxRecDepth 100000 in
theorem zq100 : (∀ o ∈ zcode 100, decode (zby 100) o.1 = .ok (o.2.1, o.2.2.1)) ∧ (zcode 100).all (zckop 100) = true := ⟨zd100, zk100⟩
set_option maxRecDepth 100000 in
theorem zd101 : ∀ o ∈ zc101, decode (zby 101) o.1 = .ok (o.2.1, o.2.2.1) := by decide +kernel
set_option maxRecDepth 100000 in
theorem zk101 : zc101.all (zckop 101) = true := by decide +kernel
set_option maxRecDepth 100000 in
theorem zq101 : (∀ o ∈ zcode 101, decode (zby 101) o.1 = .ok (o.2.1, o.2.2.1)) ∧ (zcode 101).all (zckop 101) = true := ⟨zd101, zk101⟩
set_option maxRecDepth 100000 in
theorem zd102 : ∀ o ∈ zc102, decode (zby 102) o.1 = .ok (o.2.1, o.2.2.1) := by decide +kernel
set_option maxRecDepth 100000 in
theorem zk102 : zc102.all (zckop 102) = true := by decide +kernel
set_option maxRecDepth 100000 in
theorem zq102 : (∀ o ∈ zcode 102, decode (zby 102) o.1 = .ok (o.2.1, o.2.2.1)) ∧ (zcode 102).all (zckop 102) = true := ⟨zd102, zk102⟩
set_option maxRecDepth 100000 in
theorem zd103 : ∀ o ∈ zc103, decode (zby 103) o.1 = .ok (o.2.1, o.2.2.1) := by decide +kernel
set_option maxRecDepth 100000 in
theorem zk103 : zc103.all (zckop 103) = true := by decide +kernel
set_option maxRecDepth 100000 in
theorem zq103 : (∀ o ∈ zcode 103, decode (zby 103) o.1 = .ok (o.2.1, o.2.2.1)) ∧ (zcode 103).all (zckop 103) = true := ⟨zd103, zk103⟩
set_option maxRecDepth 100000 in
theorem zd104 : ∀ o ∈ zc104, decode (zby 104) o.1 = .ok (o.2.1, o.2.2.1) := by decide +kernel
set_option maxRecDepth 100000 in
theorem zk104 : zc104.all (zckop 104) = true := by decide +kernel
set_option maxRecDepth 100000 in
theorem zq104 : (∀ o ∈ zcode 104, decode (zby 104) o.1 = .ok (o.2.1, o.2.2.1)) ∧ (zcode 104).all (zckop 104) = true := ⟨zd104, zk104⟩
set_option maxRecDepth 100000 in
theorem zd105 : ∀ o ∈ zc105, decode (zby 105) o.1 = .ok (o.2.1, o.2.2.1) := by decide +kernel
set_option maxRecDepth 100000 in
theorem zk105 : zc105.all (zckop 105) = true := by decide +kernel
set_option maxRecDepth 100000 in
theorem zq105 : (∀ o ∈ zcode 105, decode (zby 105) o.1 = .ok (o.2.1, o.2.2.1)) ∧ (zcode 105).all (zckop 105) = true := ⟨zd105, zk105⟩
set_option maxRecDepth 100000 in
theorem zd106 : ∀ o ∈ zc106, decode (zby 106) o.1 = .ok (o.2.1, o.2.2.1) := by decide +kernel
set_option maxRecDepth 100000 in
theorem zk106 : zc106.all (zckop 106) = true := by decide +kernel
set_option maxRecDepth 100000 in
theorem zq106 : (∀ o ∈ zcode 106, decode (zby 106) o.1 = .ok (o.2.1, o.2.2.1)) ∧ (zcode 106).all (zckop 106) = true := ⟨zd106, zk106⟩
set_option maxRecDepth 100000 in
theorem zd107 : ∀ o ∈ zc107, decode (zby 107) o.1 = .ok (o.2.1, o.2.2.1) := by decide +kernel
set_option maxRecDepth 100000 in
theorem zk107 : zc107.all (zckop 107) = true := by decide +kernel
set_option maxRecDepth 100000 in
theorem zq107 : (∀ o ∈ zcode 107, decode (zby 107) o.1 = .ok (o.2.1, o.2.2.1)) ∧ (zcode 107).all (zckop 107) = true := ⟨zd107, zk107⟩
set_option maxRecDepth 100000 in
theorem zd108 : ∀ o ∈ zc108, decode (zby 108) o.1 = .ok (o.2.1, o.2.2.1) := by decide +kernel
set_option maxRecDepth 100000 in
theorem zk108 : zc108.all (zckop 108) = true := by decide +kernel
set_option maxRecDepth 100000 in
theorem zq108 : (∀ o ∈ zcode 108, decode (zby 108) o.1 = .ok (o.2.1, o.2.2.1)) ∧ (zcode 108).all (zckop 108) = true := ⟨zd108, zk108⟩
set_option maxRecDepth 100000 in
theorem zd109 : ∀ o ∈ zc109, decode (zby 109) o.1 = .ok (o.2.1, o.2.2.1) := by decide +kernel
set_option maxRecDepth 100000 in
theorem zk109 : zc109.all (zckop 109) = true := by decide +kernel
set_option maxRecDepth 100000 in
theorem zq109 : (∀ o ∈ zcode 109, decode (zby 109) o.1 = .ok (o.2.1, o.2.2.1)) ∧ (zcode 109).all (zckop 109) = true := ⟨zd109, zk109⟩
set_option maxRecDepth 100000 in
theorem zd110 : ∀ o ∈ zc110, decode (zby 110) o.1 = .ok (o.2.1, o.2.2.1) := by decide +kernel
set_option maxRecDepth 100000 in
theorem zk110 : zc110.all (zckop 110) = true := by decide +kernel
set_option maxRecDepth 100000 in
theorem zq110 : (∀ o ∈ zcode 110, decode (zby 110) o.1 = .ok (o.2.1, o.2.2.1)) ∧ (zcode 110).all (zckop 110) = true := ⟨zd110, zk110⟩
set_option maxRecDepth 100000 in
theorem zd111 : ∀ o ∈ zc111, decode (zby 111) o.1 = .ok (o.2.1, o.2.2.1) := by decide +kernel
set_option maxRecDepth 100000 in
theorem zk111 : zc111.all (zckop 111) = true := by decide +kernel
set_option maxRecDepth 100000 in
theorem zq111 : (∀ o ∈ zcode 111, decode (zby 111) o.1 = .ok (o.2.1, o.2.2.1)) ∧ (zcode 111).all (zckop 111) = true := ⟨zd111, zk111⟩
set_option maxRecDepth 100000 in
theorem zd112 : ∀ o ∈ zc112, decode (zby 112) o.1 = .ok (o.2.1, o.2.2.1) := by decide +kernel
set_option maxRecDepth 100000 in
theorem zk112 : zc112.all (zckop 112) = true := by decide +kernel
set_option maxRecDepth 100000 in
theorem zq112 : (∀ o ∈ zcode 112, decode (zby 112) o.1 = .ok (o.2.1, o.2.2.1)) ∧ (zcode 112).all (zckop 112) = true := ⟨zd112, zk112⟩
set_option maxRecDepth 100000 in
theorem zd113 : ∀ o ∈ zc113, decode (zby 113) o.1 = .ok (o.2.1, o.2.2.1) := by decide +kernel
set_option maxRecDepth 100000 in
theorem zk113 : zc113.all (zckop 113) = true := by decide +kernel
set_option maxRecDepth 100000 in
theorem zq113 : (∀ o ∈ zcode 113, decode (zby 113) o.1 = .ok (o.2.1, o.2.2.1)) ∧ (zcode 113).all (zckop 113) = true := ⟨zd113, zk113⟩
set_option maxRecDepth 100000 in
theorem zd114 : ∀ o ∈ zc114, decode (zby 114) o.1 = .ok (o.2.1, o.2.2.1) := by decide +kernel
set_option maxRecDepth 100000 in
theorem zk114 : zc114.all (zckop 114) = true := by decide +kernel
set_option maxRecDepth 100000 in
theorem zq114 : (∀ o ∈ zcode 114, decode (zby 114) o.1 = .ok (o.2.1, o.2.2.1)) ∧ (zcode 114).all (zckop 114) = true := ⟨zd114, zk114⟩
set_option maxRecDepth 100000 in
theorem zd115 : ∀ o ∈ zc115, decode (zby 115) o.1 = .ok (o.2.1, o.2.2.1) := by decide +kernel
set_option maxRecDepth 100000 in
theorem zk115 : zc115.all (zckop 115) = true := by decide +kernel
set_option maxRecDepth 100000 in
theorem zq115 : (∀ o ∈ zcode 115, decode (zby 115) o.1 = .ok (o.2.1, o.2.2.1)) ∧ (zcode 115).all (zckop 115) = true := ⟨zd115, zk115⟩
set_option maxRecDepth 100000 in
theorem zd116 : ∀ o ∈ zc116, decode (zby 116) o.1 = .ok (o.2.1, o.2.2.1) := by decide +kernel
set_option maxRecDepth 100000 in
theorem zk116 : zc116.all (zckop 116) = true := by decide +kernel
set_option maxRecDepth 100000 in
theorem zq116 : (∀ o ∈ zcode 116, decode (zby 116) o.1 = .ok (o.2.1, o.2.2.1)) ∧ (zcode 116).all (zckop 116) = true := ⟨zd116, zk116⟩
set_option maxRecDepth 100000 in
theorem zd117 : ∀ o ∈ zc117, decode (zby 117) o.1 = .ok (o.2.1, o.2.2.1) := by decide +kernel
set_option maxRecDepth 100000 in
theorem zk117 : zc117.all (zckop 117) = true := by decide +kernel
set_option maxRecDepth 100000 in
theorem zq117 : (∀ o ∈ zcode 117, decode (zby 117) o.1 = .ok (o.2.1, o.2.2.1)) ∧ (zcode 117).all (zckop 117) = true := ⟨zd117, zk117⟩
set_option maxRecDepth 100000 in
theorem zd118 : ∀ o ∈ zc118, decode (zby 118) o.1 = .ok (o.2.1, o.2.2.1) := by decide +kernel
set_option maxRecDepth 100000 in
theorem zk118 : zc118.all (zckop 118) = true := by decide +kernel
set_option maxRecDepth 100000 in
theorem zq118 : (∀ o ∈ zcode 118, decode (zby 118) o.1 = .ok (o.2.1, o.2.2.1)) ∧ (zcode 118).all (zckop 118) = true := ⟨zd118, zk118⟩
set_option maxRecDepth 100000 in
theorem zd119 : ∀ o ∈ zc119, decode (zby 119) o.1 = .ok (o.2.1, o.2.2.1) := by decide +kernel
set_option maxRecDepth 100000 in
theorem zk119 : zc119.all (zckop 119) = true := by decide +kernel
set_option maxRecDepth 100000 in
theorem zq119 : (∀ o ∈ zcode 119, decode (zby 119) o.1 = .ok (o.2.1, o.2.2.1)) ∧ (zcode 119).all (zckop 119) = true := ⟨zd119, zk119⟩
set_option maxRecDepth 100000 in
theorem zd120 : ∀ o ∈ zc120, decode (zby 120) o.1 = .ok (o.2.1, o.2.2.1) := by decide +kernel
set_option maxRecDepth 100000 in
theorem zk120 : zc120.all (zckop 120) = true := by decide +kernel
set_option maxRecDepth 100000 in
theorem zq120 : (∀ o ∈ zcode 120, decode (zby 120) o.1 = .ok (o.2.1, o.2.2.1)) ∧ (zcode 120).all (zckop 120) = true := ⟨zd120, zk120⟩
set_option maxRecDepth 100000 in
theorem zd121 : ∀ o ∈ zc121, decode (zby 121) o.1 = .ok (o.2.1, o.2.2.1) := by decide +kernel
set_option maxRecDepth 100000 in
theorem zk121 : zc121.all (zckop 121) = true := by decide +kernel
set_option maxRecDepth 100000 in
theorem zq121 : (∀ o ∈ zcode 121, decode (zby 121) o.1 = .ok (o.2.1, o.2.2.1)) ∧ (zcode 121).all (zckop 121) = true := ⟨zd121, zk121⟩
set_option maxRecDepth 100000 in
theorem zd122 : ∀ o ∈ zc122, decode (zby 122) o.1 = .ok (o.2.1, o.2.2.1) := by decide +kernel
set_option maxRecDepth 100000 in
theorem zk122 : zc122.all (zckop 122) = true := by decide +kernel
set_option maxRecDepth 100000 in
theorem zq122 : (∀ o ∈ zcode 122, decode (zby 122) o.1 = .ok (o.2.1, o.2.2.1)) ∧ (zcode 122).all (zckop 122) = true := ⟨zd122, zk122⟩
set_option maxRecDepth 100000 in
theorem zd123 : ∀ o ∈ zc123, decode (zby 123) o.1 = .ok (o.2.1, o.2.2.1) := by decide +kernel
set_option maxRecDepth 100000 in
theorem zk123 : zc123.all (zckop 123) = true := by decide +kernel
set_option maxRecDepth 100000 in
theorem zq123 : (∀ o ∈ zcode 123, decode (zby 123) o.1 = .ok (o.2.1, o.2.2.1)) ∧ (zcode 123).all (zckop 123) = true := ⟨zd123, zk123⟩
set_option maxRecDepth 100000 in
theorem zd124 : ∀ o ∈ zc124, decode (zby 124) o.1 = .ok (o.2.1, o.2.2.1) := by decide +kernel
set_option maxRecDepth 100000 in
theorem zk124 : zc124.all (zckop 124) = true := by decide +kernel
set_option maxRecDepth 100000 in
theorem zq124 : (∀ o ∈ zcode 124, decode (zby 124) o.1 = .ok (o.2.1, o.2.2.1)) ∧ (zcode 124).all (zckop 124) = true := ⟨zd124, zk124⟩
set_option maxRecDepth 100000 in
theorem zd125 : ∀ o ∈ zc125, decode (zby 125) o.1 = .ok (o.2.1, o.2.2.1) := by decide +kernel
set_option maxRecDepth 100000 in
theorem zk125 : zc125.all (zckop 125) = true := by decide +kernel
set_option maxRecDepth 100000 in
theorem zq125 : (∀ o ∈ zcode 125, decode (zby 125) o.1 = .ok (o.2.1, o.2.2.1)) ∧ (zcode 125).all (zckop 125) = true := ⟨zd125, zk125⟩
set_option maxRecDepth 100000 in
theorem zd126 : ∀ o ∈ zc126, decode (zby 126) o.1 = .ok (o.2.1, o.2.2.1) := by decide +kernel
set_option maxRecDepth 100000 in
theorem zk126 : zc126.all (zckop 126) = true := by decide +kernel
set_option maxRecDepth 100000 in
theorem zq126 : (∀ o ∈ zcode 126, decode (zby 126) o.1 = .ok (o.2.1, o.2.2.1)) ∧ (zcode 126).all (zckop 126) = true := ⟨zd126, zk126⟩
set_option maxRecDepth 100000 in
theorem zd127 : ∀ o ∈ zc127, decode (zby 127) o.1 = .ok (o.2.1, o.2.2.1) := by decide +kernel
set_option maxRecDepth 100000 in
theorem zk127 : zc127.all (zckop 127) = true := by decide +kernel
set_option maxRecDepth 100000 in
theorem zq127 : (∀ o ∈ zcode 127, decode (zby 127) o.1 = .ok (o.2.1, o.2.2.1)) ∧ (zcode 127).all (zckop 127) = true := ⟨zd127, zk127⟩
set_option maxRecDepth 100000 in
theorem zd128 : ∀ o ∈ zc128, decode (zby 128) o.1 = .ok (o.2.1, o.2.2.1) := by decide +kernel
set_option maxRecDepth 100000 in
theorem zk128 : zc128.all (zckop 128) = true := by decide +kernel
set_option maxRecDepth 100000 in
theorem zq128 : (∀ o ∈ zcode 128, decode (zby 128) o.1 = .ok (o.2.1, o.2.2.1)) ∧ (zcode 128).all (zckop 128) = true := ⟨zd128, zk128⟩
set_option maxRecDepth 100000 in
theorem zd129 : ∀ o ∈ zc129, decode (zby 129) o.1 = .ok (o.2.1, o.2.2.1) := by decide +kernel
set_option maxRecDepth 100000 in
theorem zk129 : zc129.all (zckop 129) = true := by decide +kernel
set_option maxRecDepth 100000 in
theorem zq129 : (∀ o ∈ zcode 129, decode (zby 129) o.1 = .ok (o.2.1, o.2.2.1)) ∧ (zcode 129).all (zckop 129) = true := ⟨zd129, zk129⟩
set_option maxRecDepth 100000 in
theorem zd130 : ∀ o ∈ zc130, decode (zby 130) o.1 = .ok (o.2.1, o.2.2.1) := by decide +kernel
set_option maxRecDepth 100000 in
theorem zk130 : zc130.all (zckop 130) = true := by decide +kernel
set_option maxRecDepth 100000 in
theorem zq130 : (∀ o ∈ zcode 130, decode (zby 130) o.1 = .ok (o.2.1, o.2.2.1)) ∧ (zcode 130).all (zckop 130) = true := ⟨zd130, zk130⟩
set_option maxRecDepth 100000 in
theorem zd131 : ∀ o ∈ zc131, decode (zby 131) o.1 = .ok (o.2.1, o.2.2.1) := by decide +kernel
set_option maxRecDepth 100000 in
theorem zk131 : zc131.all (zckop 131) = true := by decide +kernel
set_option maxRecDepth 100000 in
theorem zq131 : (∀ o ∈ zcode 131, decode (zby 131) o.1 = .ok (o.2.1, o.2.2.1)) ∧ (zcode 131).all (zckop 131) = true := ⟨zd131, zk131⟩
set_option maxRecDepth 100000 in
theorem zd132 : ∀ o ∈ zc132, decode (zby 132) o.1 = .ok (o.2.1, o.2.2.1) := by decide +kernel
set_option maxRecDepth 100000 in
theorem zk132 : zc132.all (zckop 132) = true := by decide +kernel
set_option maxRecDepth 100000 in
theorem zq132 : (∀ o ∈ zcode 132, decode (zby 132) o.1 = .ok (o.2.1, o.2.2.1)) ∧ (zcode 132).all (zckop 132) = true := ⟨zd132, zk132⟩
set_option maxRecDepth 100000 in
theorem zd133 : ∀ o ∈ zc133, decode (zby 133) o.1 = .ok (o.2.1, o.2.2.1) := by decide +kernel
set_option maxRecDepth 100000 in
theorem zk133 : zc133.all (zckop 133) = true := by decide +kernel
set_option maxRecDepth 100000 in
theorem zq133 : (∀ o ∈ zcode 133, decode (zby 133) o.1 = .ok (o.2.1, o.2.2.1)) ∧ (zcode 133).all (zckop 133) = true := ⟨zd133, zk133⟩
set_option maxRecDepth 100000 in
theorem zd134 : ∀ o ∈ zc134, decode (zby 134) o.1 = .ok (o.2.1, o.2.2.1) := by decide +kernel
set_option maxRecDepth 100000 in
theorem zk134 : zc134.all (zckop 134) = true := by decide +kernel
set_option maxRecDepth 100000 in
theorem zq134 : (∀ o ∈ zcode 134, decode (zby 134) o.1 = .ok (o.2.1, o.2.2.1)) ∧ (zcode 134).all (zckop 134) = true := ⟨zd134, zk134⟩
set_option maxRecDepth 100000 in
theorem zd135 : ∀ o ∈ zc135, decode (zby 135) o.1 = .ok (o.2.1, o.2.2.1) := by decide +kernel
set_option maxRecDepth 100000 in
theorem zk135 : zc135.all (zckop 135) = true := by decide +kernel
set_option maxRecDepth 100000 in
theorem zq135 : (∀ o ∈ zcode 135, decode (zby 135) o.1 = .ok (o.2.1, o.2.2.1)) ∧ (zcode 135).all (zckop 135) = true := ⟨zd135, zk135⟩
set_option maxRecDepth 100000 in
theorem zd136 : ∀ o ∈ zc136, decode (zby 136) o.1 = .ok (o.2.1, o.2.2.1) := by decide +kernel
set_option maxRecDepth 100000 in
theorem zk136 : zc136.all (zckop 136) = true := by decide +kernel
set_option maxRecDepth 100000 in
theorem zq136 : (∀ o ∈ zcode 136, decode (zby 136) o.1 = .ok (o.2.1, o.2.2.1)) ∧ (zcode 136).all (zckop 136) = true := ⟨zd136, zk136⟩
set_option maxRecDepth 100000 in
theorem zd137 : ∀ o ∈ zc137, decode (zby 137) o.1 = .ok (o.2.1, o.2.2.1) := by decide +kernel
set_option maxRecDepth 100000 in
theorem zk137 : zc137.all (zckop 137) = true := by decide +kernel
set_option maxRecDepth 100000 in
theorem zq137 : (∀ o ∈ zcode 137, decode (zby 137) o.1 = .ok (o.2.1, o.2.2.1)) ∧ (zcode 137).all (zckop 137) = true := ⟨zd137, zk137⟩
set_option maxRecDepth 100000 in
theorem zd138 : ∀ o ∈ zc138, decode (zby 138) o.1 = .ok (o.2.1, o.2.2.1) := by decide +kernel
set_option maxRecDepth 100000 in
theorem zk138 : zc138.all (zckop 138) = true := by decide +kernel
set_option maxRecDepth 100000 in
theorem zq138 : (∀ o ∈ zcode 138, decode (zby 138) o.1 = .ok (o.2.1, o.2.2.1)) ∧ (zcode 138).all (zckop 138) = true := ⟨zd138, zk138⟩
set_option maxRecDepth 100000 in
theorem zd139 : ∀ o ∈ zc139, decode (zby 139) o.1 = .ok (o.2.1, o.2.2.1) := by decide +kernel
set_option maxRecDepth 100000 in
theorem zk139 : zc139.all (zckop 139) = true := by decide +kernel
set_option maxRecDepth 100000 in
theorem zq139 : (∀ o ∈ zcode 139, decode (zby 139) o.1 = .ok (o.2.1, o.2.2.1)) ∧ (zcode 139).all (zckop 139) = true := ⟨zd139, zk139⟩
set_option maxRecDepth 100000 in
theorem zd140 : ∀ o ∈ zc140, decode (zby 140) o.1 = .ok (o.2.1, o.2.2.1) := by decide +kernel
set_option maxRecDepth 100000 in
theorem zk140 : zc140.all (zckop 140) = true := by decide +kernel
set_option maxRecDepth 100000 in
theorem zq140 : (∀ o ∈ zcode 140, decode (zby 140) o.1 = .ok (o.2.1, o.2.2.1)) ∧ (zcode 140).all (zckop 140) = true := ⟨zd140, zk140⟩
set_option maxRecDepth 100000 in
theorem zd141 : ∀ o ∈ zc141, decode (zby 141) o.1 = .ok (o.2.1, o.2.2.1) := by decide +kernel
set_option maxRecDepth 100000 in
theorem zk141 : zc141.all (zckop 141) = true := by decide +kernel
set_option maxRecDepth 100000 in
theorem zq141 : (∀ o ∈ zcode 141, decode (zby 141) o.1 = .ok (o.2.1, o.2.2.1)) ∧ (zcode 141).all (zckop 141) = true := ⟨zd141, zk141⟩
set_option maxRecDepth 100000 in
theorem zd142 : ∀ o ∈ zc142, decode (zby 142) o.1 = .ok (o.2.1, o.2.2.1) := by decide +kernel
set_option maxRecDepth 100000 in
theorem zk142 : zc142.all (zckop 142) = true := by decide +kernel
set_option maxRecDepth 100000 in
theorem zq142 : (∀ o ∈ zcode 142, decode (zby 142) o.1 = .ok (o.2.1, o.2.2.1)) ∧ (zcode 142).all (zckop 142) = true := ⟨zd142, zk142⟩
set_option maxRecDepth 100000 in
theorem zd143 : ∀ o ∈ zc143, decode (zby 143) o.1 = .ok (o.2.1, o.2.2.1) := by decide +kernel
set_option maxRecDepth 100000 in
theorem zk143 : zc143.all (zckop 143) = true := by decide +kernel
set_option maxRecDepth 100000 in
theorem zq143 : (∀ o ∈ zcode 143, decode (zby 143) o.1 = .ok (o.2.1, o.2.2.1)) ∧ (zcode 143).all (zckop 143) = true := ⟨zd143, zk143⟩
set_option maxRecDepth 100000 in
theorem zd144 : ∀ o ∈ zc144, decode (zby 144) o.1 = .ok (o.2.1, o.2.2.1) := by decide +kernel
set_option maxRecDepth 100000 in
theorem zk144 : zc144.all (zckop 144) = true := by decide +kernel
set_option maxRecDepth 100000 in
theorem zq144 : (∀ o ∈ zcode 144, decode (zby 144) o.1 = .ok (o.2.1, o.2.2.1)) ∧ (zcode 144).all (zckop 144) = true := ⟨zd144, zk144⟩
set_option maxRecDepth 100000 in
theorem zd145 : ∀ o ∈ zc145, decode (zby 145) o.1 = .ok (o.2.1, o.2.2.1) := by decide +kernel
set_option maxRecDepth 100000 in
theorem zk145 : zc145.all (zckop 145) = true := by decide +kernel
set_option maxRecDepth 100000 in
theorem zq145 : (∀ o ∈ zcode 145, decode (zby 145) o.1 = .ok (o.2.1, o.2.2.1)) ∧ (zcode 145).all (zckop 145) = true := ⟨zd145, zk145⟩
set_option maxRecDepth 100000 in
theorem zd146 : ∀ o ∈ zc146, decode (zby 146) o.1 = .ok (o.2.1, o.2.2.1) := by decide +kernel
set_option maxRecDepth 100000 in
theorem zk146 : zc146.all (zckop 146) = true := by decide +kernel
set_option maxRecDepth 100000 in
theorem zq146 : (∀ o ∈ zcode 146, decode (zby 146) o.1 = .ok (o.2.1, o.2.2.1)) ∧ (zcode 146).all (zckop 146) = true := ⟨zd146, zk146⟩
set_option maxRecDepth 100000 in
theorem zd147 : ∀ o ∈ zc147, decode (zby 147) o.1 = .ok (o.2.1, o.2.2.1) := by decide +kernel
set_option maxRecDepth 100000 in
theorem zk147 : zc147.all (zckop 147) = true := by decide +kernel
set_option maxRecDepth 100000 in
theorem zq147 : (∀ o ∈ zcode 147, decode (zby 147) o.1 = .ok (o.2.1, o.2.2.1)) ∧ (zcode 147).all (zckop 147) = true := ⟨zd147, zk147⟩
set_option maxRecDepth 100000 in
theorem zd148 : ∀ o ∈ zc148, decode (zby 148) o.1 = .ok (o.2.1, o.2.2.1) := by decide +kernel
set_option maxRecDepth 100000 in
theorem zk148 : zc148.all (zckop 148) = true := by decide +kernel
set_option maxRecDepth 100000 in
theorem zq148 : (∀ o ∈ zcode 148, decode (zby 148) o.1 = .ok (o.2.1, o.2.2.1)) ∧ (zcode 148).all (zckop 148) = true := ⟨zd148, zk148⟩
set_option maxRecDepth 100000 in
theorem zd149 : ∀ o ∈ zc149, decode (zby 149) o.1 = .ok (o.2.1, o.2.2.1) := by decide +kernel
set_option maxRecDepth 100000 in
theorem zk149 : zc149.all (zckop 149) = true := by decide +kernel
set_option maxRecDepth 100000 in
theorem zq149 : (∀ o ∈ zcode 149, decode (zby 149) o.1 = .ok (o.2.1, o.2.2.1)) ∧ (zcode 149).all (zckop 149) = true := ⟨zd149, zk149⟩
set_option maxRecDepth 100000 in
theorem zd150 : ∀ o ∈ zc150, decode (zby 150) o.1 = .ok (o.2.1, o.2.2.1) := by decide +kernel
set_option maxRecDepth 100000 in
theorem zk150 : zc150.all (zckop 150) = true := by decide +kernel
set_option maxRecDepth 100000 in
theorem zq150 : (∀ o ∈ zcode 150, decode (zby 150) o.1 = .ok (o.2.1, o.2.2.1)) ∧ (zcode 150).all (zckop 150) = true := ⟨zd150, zk150⟩
set_option maxRecDepth 100000 in
theorem zd151 : ∀ o ∈ zc151, decode (zby 151) o.1 = .ok (o.2.1, o.2.2.1) := by decide +kernel
set_option maxRecDepth 100000 in
theorem zk151 : zc151.all (zckop 151) = true := by decide +kernel
set_option maxRecDepth 100000 in
theorem zq151 : (∀ o ∈ zcode 151, decode (zby 151) o.1 = .ok (o.2.1, o.2.2.1)) ∧ (zcode 151).all (zckop 151) = true := ⟨zd151, zk151⟩
set_option maxRecDepth 100000 in
theorem zd152_0 : ∀ o ∈ zc152_0, decode prog_13_method_4_code o.1 = .ok (o.2.1, o.2.2.1) := by decide +kernel
set_option maxRecDepth 100000 in
theorem zk152_0 : zc152_0.all (zckop 152) = true := by decide +kernel
set_option maxRecDepth 100000 in
theorem zd152_1 : ∀ o ∈ zc152_1, decode prog_13_method_4_code o.1 = .ok (o.2.1, o.2.2.1) := by decide +kernel
set_option maxRecDepth 100000 in
theorem zk152_1 : zc152_1.all (zckop 152) = true := by decide +kernel
set_option maxRecDepth 100000 in
theorem zd152 : ∀ o ∈ zc152, decode (zby 152) o.1 = .ok (o.2.1, o.2.2.1) := List.forall_mem_append.mpr ⟨zd152_0, zd152_1⟩
set_option maxRecDepth 100000 in
theorem zk152 : zc152.all (zckop 152) = true := zallapp zk152_0 (zk152_1)
set_option maxRecDepth 100000 in
theorem zq152 : (∀ o ∈ zcode 152, decode (zby 152) o.1 = .ok (o.2.1, o.2.2.1)) ∧ (zcode 152).all (zckop 152) = true := ⟨zd152, zk152⟩
set_option maxRecDepth 100000 in
theorem zd153_0 : ∀ o ∈ zc153_0, decode prog_13_method_5_code o.1 = .ok (o.2.1, o.2.2.1) := by decide +kernel
set_option maxRecDepth 100000 in
theorem zk153_0 : zc153_0.all (zckop 153) = true := by decide +kernel
set_option maxRecDepth 100000 in
theorem zd153_1 : ∀ o ∈ zc153_1, decode prog_13_method_5_code o.1 = .ok (o.2.1, o.2.2.1) := by decide +kernel
set_option maxRecDepth 100000 in
theorem zk153_1 : zc153_1.all (zckop 153) = true := by decide +kernel
set_option maxRecDepth 100000 in
theorem zd153 : ∀ o ∈ zc153, decode (zby 153) o.1 = .ok (o.2.1, o.2.2.1) := List.forall_mem_append.mpr ⟨zd153_0, zd153_1⟩
set_option maxRecDepth 100000 in
theorem zk153 : zc153.all (zckop 153) = true := zallapp zk153_0 (zk153_1)
set_option maxRecDepth 100000 in
theorem zq153 : (∀ o ∈ zcode 153, decode (zby 153) o.1 = .ok (o.2.1, o.2.2.1)) ∧ (zcode 153).all (zckop 153) = true := ⟨zd153, zk153⟩
set_option maxRecDepth 100000 in
theorem zd154 : ∀ o ∈ zc154, decode (zby 154) o.1 = .ok (o.2.1, o.2.2.1) := by decide +kernel
set_option maxRecDepth 100000 in
theorem zk154 : zc154.all (zckop 154) = true := by decide +kernel
set_option maxRecDepth 100000 in
theorem zq154 : (∀ o ∈ zcode 154, decode (zby 154) o.1 = .ok (o.2.1, o.2.2.1)) ∧ (zcode 154).all (zckop 154) = true := ⟨zd154, zk154⟩
set_option maxRecDepth 100000 in
theorem zd155 : ∀ o ∈ zc155, decode (zby 155) o.1 = .ok (o.2.1, o.2.2.1) := by decide +kernel
set_option maxRecDepth 100000 in
theorem zk155 : zc155.all (zckop 155) = true := by decide +kernel
set_option maxRecDepth 100000 in
theorem zq155 : (∀ o ∈ zcode 155, decode (zby 155) o.1 = .ok (o.2.1, o.2.2.1)) ∧ (zcode 155).all (zckop 155) = true := ⟨zd155, zk155⟩
set_option maxRecDepth 100000 in
theorem zd156 : ∀ o ∈ zc156, decode (zby 156) o.1 = .ok (o.2.1, o.2.2.1) := by decide +kernel
set_option maxRecDepth 100000 in
theorem zk156 : zc156.all (zckop 156) = true := by decide +kernel
set_option maxRecDepth 100000 in
theorem zq156 : (∀ o ∈ zcode 156, decode (zby 156) o.1 = .ok (o.2.1, o.2.2.1)) ∧ (zcode 156).all (zckop 156) = true := ⟨zd156, zk156⟩
set_option maxRecDepth 100000 in
theorem zd157 : ∀ o ∈ zc157, decode (zby 157) o.1 = .ok (o.2.1, o.2.2.1) := by decide +kernel
set_option maxRecDepth 100000 in
theorem zk157 : zc157.all (zckop 157) = true := by decide +kernel
set_option maxRecDepth 100000 in
theorem zq157 : (∀ o ∈ zcode 157, decode (zby 157) o.1 = .ok (o.2.1, o.2.2.1)) ∧ (zcode 157).all (zckop 157) = true := ⟨zd157, zk157⟩
set_option maxRecDepth 100000 in
theorem zd158 : ∀ o ∈ zc158, decode (zby 158) o.1 = .ok (o.2.1, o.2.2.1) := by decide +kernel
set_option maxRecDepth 100000 in
theorem zk158 : zc158.all (zckop 158) = true := by decide +kernel
set_option maxRecDepth 100000 in
theorem zq158 : (∀ o ∈ zcode 158, decode (zby 158) o.1 = .ok (o.2.1, o.2.2.1)) ∧ (zcode 158).all (zckop 158) = true := ⟨zd158, zk158⟩
set_option maxRecDepth 100000 in
theorem zd159_0 : ∀ o ∈ zc159_0, decode prog_13_method_11_code o.1 = .ok (o.2.1, o.2.2.1) := by decide +kernel
set_option maxRecDepth 100000 in
theorem zk159_0 : zc159_0.all (zckop 159) = true := by decide +kernel
set_option maxRecDepth 100000 in
theorem zd159_1 : ∀ o ∈ zc159_1, decode prog_13_method_11_code o.1 = .ok (o.2.1, o.2.2.1) := by decide +kernel
set_option maxRecDepth 100000 in
theorem zk159_1 : zc159_1.all (zckop 159) = true := by decide +kernel
set_option maxRecDepth 100000 in
theorem zd159 : ∀ o ∈ zc159, decode (zby 159) o.1 = .ok (o.2.1, o.2.2.1) := List.forall_mem_append.mpr ⟨zd159_0, zd159_1⟩
set_option maxRecDepth 100000 in
theorem zk159 : zc159.all (zckop 159) = true := zallapp zk159_0 (zk159_1)
set_option maxRecDepth 100000 in
theorem zq159 : (∀ o ∈ zcode 159, decode (zby 159) o.1 = .ok (o.2.1, o.2.2.1)) ∧ (zcode 159).all (zckop 159) = true := ⟨zd159, zk159⟩
set_option maxRecDepth 100000 in
theorem zql120 : ∀ M, M < 120 → (∀ o ∈ zcode M, decode (zby M) o.1 = .ok (o.2.1, o.2.2.1)) ∧ (zcode M).all (zckop M) = true := lt_s (lt_s (lt_s (lt_s (lt_s (lt_s (lt_s (lt_s (lt_s (lt_s (lt_s (lt_s (lt_s (lt_s (lt_s (lt_s (lt_s (lt_s (lt_s (lt_s (lt_s (lt_s (lt_s (lt_s (lt_s (lt_s (lt_s (lt_s (lt_s (lt_s (lt_s (lt_s (lt_s (lt_s (lt_s (lt_s (lt_s (lt_s (lt_s (lt_s (zql80) zq80) zq81) zq82) zq83) zq84) zq85) zq86) zq87) zq88) zq89) zq90) zq91) zq92) zq93) zq94) zq95) zq96) zq97) zq98) zq99) zq100) zq101) zq102) zq103) zq104) zq105) zq106) zq107) zq108) zq109) zq110) zq111) zq112) zq113) zq114) zq115) zq116) zq117) zq118) zq119
set_option maxRecDepth 100000 in
theorem zql160 : ∀ M, M < 160 → (∀ o ∈ zcode M, decode (zby M) o.1 = .ok (o.2.1, o.2.2.1)) ∧ (zcode M).all (zckop M) = true := lt_s (lt_s (lt_s (lt_s (lt_s (lt_s (lt_s (lt_s (lt_s (lt_s (lt_s (lt_s (lt_s (lt_s (lt_s (lt_s (lt_s (lt_s (lt_s (lt_s (lt_s (lt_s (lt_s (lt_s (lt_s (lt_s (lt_s (lt_s (lt_s (lt_s (lt_s (lt_s (lt_s (lt_s (lt_s (lt_s (lt_s (lt_s (lt_s (lt_s (zql120) zq120) zq121) zq122) zq123) zq124) zq125) zq126) zq127) zq128) zq129) zq130) zq131) zq132) zq133) zq134) zq135) zq136) zq137) zq138) zq139) zq140) zq141) zq142) zq143) zq144) zq145) zq146) zq147) zq148) zq149) zq150) zq151) zq152) zq153) zq154) zq155) zq156) zq157) zq158) zq159
