set_option maxRecDepth 100000 in
theorem zd243_0 : ∀ o ∈ zc243_0, decode code o.1 = .ok (o.2.1, o.2.2.1) := by decide +kernel
set_option maxRecDepth 100000 in
theorem zk243_0 : zc243_0.all (zckop 243) = true := by decide +kernel
set_option maxRecDepth 100000 in
theorem zd243_1 : ∀ o ∈ zc243_1, decode code o.1 = .ok (o.2.1, o.2.2.1) := by decide +kernel
set_option maxRecDepth 100000 in
theorem zk243_1 : zc243_1.all (zckop 243) = true := by decide +kernel
set_option maxRecDepth 100000 in
theorem zd243_2 : ∀ o ∈ zc243_2, decode code o.1 = .ok (o.2.1, o.2.2.1) := by decide +kernel
set_option maxRecDepth 100000 in
theorem zk243_2 : zc243_2.all (zckop 243) = true := by decide +kernel
set_option maxRecDepth 100000 in
theorem zd243_3 : ∀ o ∈ zc243_3, decode code o.1 = .ok (o.2.1, o.2.2.1) := by decide +kernel
set_option maxRecDepth 100000 in
theorem zk243_3 : zc243_3.all (zckop 243) = true := by decide +kernel
set_option maxRecDepth 100000 in
theorem zd243_4 : ∀ o ∈ zc243_4, decode code o.1 = .ok (o.2.1, o.2.2.1) := by decide +kernel
set_option maxRecDepth 100000 in
theorem zk243_4 : zc243_4.all (zckop 243) = true := by decide +kernel
set_option maxRecDepth 100000 in
theorem zd243_5 : ∀ o ∈ zc243_5, decode code o.1 = .ok (o.2.1, o.2.2.1) := by decide +kernel
set_option maxRecDepth 100000 in
theorem zk243_5 : zc243_5.all (zckop 243) = true := by decide +kernel
set_option maxRecDepth 100000 in
theorem zd243_6 : ∀ o ∈ zc243_6, decode code o.1 = .ok (o.2.1, o.2.2.1) := by decide +kernel
set_option maxRecDepth 100000 in
theorem zk243_6 : zc243_6.all (zckop 243) = true := by decide +kernel
set_option maxRecDepth 100000 in
theorem zd243_7 : ∀ o ∈ zc243_7, decode code o.1 = .ok (o.2.1, o.2.2.1) := by decide +kernel
set_option maxRecDepth 100000 in
theorem zk243_7 : zc243_7.all (zckop 243) = true := by decide +kernel
set_option maxRecDepth 100000 in
theorem zd243_8 : ∀ o ∈ zc243_8, decode code o.1 = .ok (o.2.1, o.2.2.1) := by decide +kernel
set_option maxRecDepth 100000 in
theorem zk243_8 : zc243_8.all (zckop 243) = true := by decide +kernel
set_option maxRecDepth 100000 in
theorem zd243_9 : ∀ o ∈ zc243_9, decode code o.1 = .ok (o.2.1, o.2.2.1) := by decide +kernel
set_option maxRecDepth 100000 in
theorem zk243_9 : zc243_9.all (zckop 243) = true := by decide +kernel
set_option maxRecDepth 100000 in
theorem zd243_10 : ∀ o ∈ zc243_10, decode code o.1 = .ok (o.2.1, o.2.2.1) := by decide +kernel
set_option maxRecDepth 100000 in
theorem zk243_10 : zc243_10.all (zckop 243) = true := by decide +kernel
set_option maxRecDepth 100000 in
theorem zd243_11 : ∀ o ∈ zc243_11, decode code o.1 = .ok (o.2.1, o.2.2.1) := by decide +kernel
set_option maxRecDepth 100000 in
theorem zk243_11 : zc243_11.all (zckop 243) = true := by decide +kernel
set_option maxRecDepth 100000 in
theorem zd243_12 : ∀ o ∈ zc243_12, decode code o.1 = .ok (o.2.1, o.2.2.1) := by decide +kernel
set_option maxRecDepth 100000 in
theorem zk243_12 : zc243_12.all (zckop 243) = true := by decide +kernel
set_option maxRecDepth 100000 in
theorem zd243_13 : ∀ o ∈ zc243_13, decode code o.1 = .ok (o.2.1, o.2.2.1) := by decide +kernel
set_option maxRecDepth 100000 in
theorem zk243_13 : zc243_13.all (zckop 243) = true := by decide +kernel
set_option maxRecDepth 100000 in
theorem zd243_14 : ∀ o ∈ zc243_14, decode code o.1 = .ok (o.2.1, o.2.2.1) := by decide +kernel
set_option maxRecDepth 100000 in
theorem zk243_14 : zc243_14.all (zckop 243) = true := by decide +kernel
set_option maxRecDepth 100000 in
theorem zd243_15 : ∀ o ∈ zc243_15, decode code o.1 = .ok (o.2.1, o.2.2.1) := by decide +kernel
set_option maxRecDepth 100000 in
theorem zk243_15 : zc243_15.all (zckop 243) = true := by decide +kernel
set_option maxRecDepth 100000 in
theorem zd243_16 : ∀ o ∈ zc243_16, decode code o.1 = .ok (o.2.1, o.2.2.1) := by decide +kernel
set_option maxRecDepth 100000 in
theorem zk243_16 : zc243_16.all (zckop 243) = true := by decide +kernel
set_option maxRecDepth 100000 in
theorem zd243_17 : ∀ o ∈ zc243_17, decode code o.1 = .ok (o.2.1, o.2.2.1) := by decide +kernel
set_option maxRecDepth 100000 in
theorem zk243_17 : zc243_17.all (zckop 243) = true := by decide +kernel
set_option maxRecDepth 100000 in
theorem zd243_18 : ∀ o ∈ zc243_18, decode code o.1 = .ok (o.2.1, o.2.2.1) := by decide +kernel
set_option maxRecDepth 100000 in
theorem zk243_18 : zc243_18.all (zckop 243) = true := by decide +kernel
set_option maxRecDepth 100000 in
theorem zd243_19 : ∀ o ∈ zc243_19, decode code o.1 = .ok (o.2.1, o.2.2.1) := by decide +kernel
set_option maxRecDepth 100000 in
theorem zk243_19 : zc243_19.all (zckop 243) = true := by decide +kernel
set_option maxRecDepth 100000 in
theorem zd243 : ∀ o ∈ zc243, decode (zby 243) o.1 = .ok (o.2.1, o.2.2.1) := List.forall_mem_append.mpr ⟨zd243_0, List.forall_mem_append.mpr ⟨zd243_1, List.forall_mem_append.mpr ⟨zd243_2, List.forall_mem_append.mpr ⟨zd243_3, List.forall_mem_append.mpr ⟨zd243_4, List.forall_mem_append.mpr ⟨zd243_5, List.forall_mem_append.mpr ⟨zd243_6, List.forall_mem_append.mpr ⟨zd243_7, List.forall_mem_append.mpr ⟨zd243_8, List.forall_mem_append.mpr ⟨zd243_9, List.forall_mem_append.mpr ⟨zd243_10, List.forall_mem_append.mpr ⟨zd243_11, List.forall_mem_append.mpr ⟨zd243_12, List.forall_mem_append.mpr ⟨zd243_13, List.forall_mem_append.mpr ⟨zd243_14, List.forall_mem_append.mpr ⟨zd243_15, List.forall_mem_append.mpr ⟨zd243_16, List.forall_mem_append.mpr ⟨zd243_17, List.forall_mem_append.mpr ⟨zd243_18, zd243_19⟩⟩⟩⟩⟩⟩⟩⟩⟩⟩⟩⟩⟩⟩⟩⟩⟩⟩⟩
set_option maxRecDepth 100000 in
theorem zk243 : zc243.all (zckop 243) = true := zallapp zk243_0 (zallapp zk243_1 (zallapp zk243_2 (zallapp zk243_3 (zallapp zk243_4 (zallapp zk243_5 (zallapp zk243_6 (zallapp zk243_7 (zallapp zk243_8 (zallapp zk243_9 (zallapp zk243_10 (zallapp zk243_11 (zallapp zk243_12 (zallapp zk243_13 (zallapp zk243_14 (zallapp zk243_15 (zallapp zk243_16 (zallapp zk243_17 (zallapp zk243_18 (zk243_19)))))))))))))))))))
set_option maxRecDepth 100000 in
theorem zq243 : (∀ o ∈ zcode 243, decode (zby 243) o.1 = .ok (o.2.1, o.2.2.1)) ∧ (zcode 243).all (zckop 243) = true := ⟨zd243, zk243⟩
set_option maxRecDepth 100000 in
theorem zql244 : ∀ M, M < 244 → (∀ o ∈ zcode M, decode (zby M) o.1 = .ok (o.2.1, o.2.2.1)) ∧ (zcode M).all (zckop M) = true := lt_s (zql243) zq243
