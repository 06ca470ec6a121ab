theorem ckS_L_law : chkS M_L_law P_L_law 0 M_L_law.2.2.2.1.data.toList = true := by decide +kernel
theorem ckI_L_law : P_L_law.all (fun q => chkI M_L_law q.1 q.2) = true := List.all_eq_true.mpr (chkS_ok _ 0 _ List.drop_zero ckS_L_law).1
theorem fe_L_law : ∀ r ∈ P_L_law, fetch 0 r.1 = some r.2 := fe_of rfl (chkS_ok _ 0 _ List.drop_zero ckS_L_law).2
theorem fe_L_law_1 : ∀ r ∈ P_L_law_1, fetch 0 r.1 = some r.2 := fun r hr => fe_L_law r (List.mem_append_left _ hr)
theorem fe_L_law_2 : ∀ r ∈ P_L_law_2, fetch 0 r.1 = some r.2 := fun r hr => fe_L_law r (List.mem_append_right _ (List.mem_append_left _ hr))
theorem fe_L_law_3 : ∀ r ∈ P_L_law_3, fetch 0 r.1 = some r.2 := fun r hr => fe_L_law r (List.mem_append_right _ (List.mem_append_right _ (List.mem_append_left _ hr)))
theorem fe_L_law_4 : ∀ r ∈ P_L_law_4, fetch 0 r.1 = some r.2 := fun r hr => fe_L_law r (List.mem_append_right _ (List.mem_append_right _ (List.mem_append_right _ (List.mem_append_left _ hr))))
theorem fe_L_law_5 : ∀ r ∈ P_L_law_5, fetch 0 r.1 = some r.2 := fun r hr => fe_L_law r (List.mem_append_right _ (List.mem_append_right _ (List.mem_append_right _ (List.mem_append_right _ (List.mem_append_left _ hr)))))
theorem fe_L_law_6 : ∀ r ∈ P_L_law_6, fetch 0 r.1 = some r.2 := fun r hr => fe_L_law r (List.mem_append_right _ (List.mem_append_right _ (List.mem_append_right _ (List.mem_append_right _ (List.mem_append_right _ (List.mem_append_left _ hr))))))
theorem fe_L_law_7 : ∀ r ∈ P_L_law_7, fetch 0 r.1 = some r.2 := fun r hr => fe_L_law r (List.mem_append_right _ (List.mem_append_right _ (List.mem_append_right _ (List.mem_append_right _ (List.mem_append_right _ (List.mem_append_right _ (List.mem_append_left _ hr)))))))
theorem fe_L_law_8 : ∀ r ∈ P_L_law_8, fetch 0 r.1 = some r.2 := fun r hr => fe_L_law r (List.mem_append_right _ (List.mem_append_right _ (List.mem_append_right _ (List.mem_append_right _ (List.mem_append_right _ (List.mem_append_right _ (List.mem_append_right _ (List.mem_append_left _ hr))))))))
theorem fe_L_law_9 : ∀ r ∈ P_L_law_9, fetch 0 r.1 = some r.2 := fun r hr => fe_L_law r (List.mem_append_right _ (List.mem_append_right _ (List.mem_append_right _ (List.mem_append_right _ (List.mem_append_right _ (List.mem_append_right _ (List.mem_append_right _ (List.mem_append_right _ (List.mem_append_left _ hr)))))))))
theorem fe_L_law_10 : ∀ r ∈ P_L_law_10, fetch 0 r.1 = some r.2 := fun r hr => fe_L_law r (List.mem_append_right _ (List.mem_append_right _ (List.mem_append_right _ (List.mem_append_right _ (List.mem_append_right _ (List.mem_append_right _ (List.mem_append_right _ (List.mem_append_right _ (List.mem_append_right _ (List.mem_append_left _ hr))))))))))
theorem fe_L_law_11 : ∀ r ∈ P_L_law_11, fetch 0 r.1 = some r.2 := fun r hr => fe_L_law r (List.mem_append_right _ (List.mem_append_right _ (List.mem_append_right _ (List.mem_append_right _ (List.mem_append_right _ (List.mem_append_right _ (List.mem_append_right _ (List.mem_append_right _ (List.mem_append_right _ (List.mem_append_right _ (List.mem_append_left _ hr)))))))))))
theorem fe_L_law_12 : ∀ r ∈ P_L_law_12, fetch 0 r.1 = some r.2 := fun r hr => fe_L_law r (List.mem_append_right _ (List.mem_append_right _ (List.mem_append_right _ (List.mem_append_right _ (List.mem_append_right _ (List.mem_append_right _ (List.mem_append_right _ (List.mem_append_right _ (List.mem_append_right _ (List.mem_append_right _ (List.mem_append_right _ (List.mem_append_left _ hr))))))))))))
theorem fe_L_law_13 : ∀ r ∈ P_L_law_13, fetch 0 r.1 = some r.2 := fun r hr => fe_L_law r (List.mem_append_right _ (List.mem_append_right _ (List.mem_append_right _ (List.mem_append_right _ (List.mem_append_right _ (List.mem_append_right _ (List.mem_append_right _ (List.mem_append_right _ (List.mem_append_right _ (List.mem_append_right _ (List.mem_append_right _ (List.mem_append_right _ (List.mem_append_left _ hr)))))))))))))
theorem fe_L_law_14 : ∀ r ∈ P_L_law_14, fetch 0 r.1 = some r.2 := fun r hr => fe_L_law r (List.mem_append_right _ (List.mem_append_right _ (List.mem_append_right _ (List.mem_append_right _ (List.mem_append_right _ (List.mem_append_right _ (List.mem_append_right _ (List.mem_append_right _ (List.mem_append_right _ (List.mem_append_right _ (List.mem_append_right _ (List.mem_append_right _ (List.mem_append_right _ (List.mem_append_left _ hr))))))))))))))
theorem fe_L_law_15 : ∀ r ∈ P_L_law_15, fetch 0 r.1 = some r.2 := fun r hr => fe_L_law r (List.mem_append_right _ (List.mem_append_right _ (List.mem_append_right _ (List.mem_append_right _ (List.mem_append_right _ (List.mem_append_right _ (List.mem_append_right _ (List.mem_append_right _ (List.mem_append_right _ (List.mem_append_right _ (List.mem_append_right _ (List.mem_append_right _ (List.mem_append_right _ (List.mem_append_right _ (List.mem_append_left _ hr)))))))))))))))
theorem fe_L_law_16 : ∀ r ∈ P_L_law_16, fetch 0 r.1 = some r.2 := fun r hr => fe_L_law r (List.mem_append_right _ (List.mem_append_right _ (List.mem_append_right _ (List.mem_append_right _ (List.mem_append_right _ (List.mem_append_right _ (List.mem_append_right _ (List.mem_append_right _ (List.mem_append_right _ (List.mem_append_right _ (List.mem_append_right _ (List.mem_append_right _ (List.mem_append_right _ (List.mem_append_right _ (List.mem_append_right _ (List.mem_append_left _ hr))))))))))))))))
theorem fe_L_law_17 : ∀ r ∈ P_L_law_17, fetch 0 r.1 = some r.2 := fun r hr => fe_L_law r (List.mem_append_right _ (List.mem_append_right _ (List.mem_append_right _ (List.mem_append_right _ (List.mem_append_right _ (List.mem_append_right _ (List.mem_append_right _ (List.mem_append_right _ (List.mem_append_right _ (List.mem_append_right _ (List.mem_append_right _ (List.mem_append_right _ (List.mem_append_right _ (List.mem_append_right _ (List.mem_append_right _ (List.mem_append_right _ (List.mem_append_left _ hr)))))))))))))))))
theorem fe_L_law_18 : ∀ r ∈ P_L_law_18, fetch 0 r.1 = some r.2 := fun r hr => fe_L_law r (List.mem_append_right _ (List.mem_append_right _ (List.mem_append_right _ (List.mem_append_right _ (List.mem_append_right _ (List.mem_append_right _ (List.mem_append_right _ (List.mem_append_right _ (List.mem_append_right _ (List.mem_append_right _ (List.mem_append_right _ (List.mem_append_right _ (List.mem_append_right _ (List.mem_append_right _ (List.mem_append_right _ (List.mem_append_right _ (List.mem_append_right _ (List.mem_append_left _ hr))))))))))))))))))
theorem fe_L_law_19 : ∀ r ∈ P_L_law_19, fetch 0 r.1 = some r.2 := fun r hr => fe_L_law r (List.mem_append_right _ (List.mem_append_right _ (List.mem_append_right _ (List.mem_append_right _ (List.mem_append_right _ (List.mem_append_right _ (List.mem_append_right _ (List.mem_append_right _ (List.mem_append_right _ (List.mem_append_right _ (List.mem_append_right _ (List.mem_append_right _ (List.mem_append_right _ (List.mem_append_right _ (List.mem_append_right _ (List.mem_append_right _ (List.mem_append_right _ (List.mem_append_right _ (List.mem_append_left _ hr)))))))))))))))))))
theorem fe_L_law_20 : ∀ r ∈ P_L_law_20, fetch 0 r.1 = some r.2 := fun r hr => fe_L_law r (List.mem_append_right _ (List.mem_append_right _ (List.mem_append_right _ (List.mem_append_right _ (List.mem_append_right _ (List.mem_append_right _ (List.mem_append_right _ (List.mem_append_right _ (List.mem_append_right _ (List.mem_append_right _ (List.mem_append_right _ (List.mem_append_right _ (List.mem_append_right _ (List.mem_append_right _ (List.mem_append_right _ (List.mem_append_right _ (List.mem_append_right _ (List.mem_append_right _ (List.mem_append_right _ (List.mem_append_left _ hr))))))))))))))))))))
theorem fe_L_law_21 : ∀ r ∈ P_L_law_21, fetch 0 r.1 = some r.2 := fun r hr => fe_L_law r (List.mem_append_right _ (List.mem_append_right _ (List.mem_append_right _ (List.mem_append_right _ (List.mem_append_right _ (List.mem_append_right _ (List.mem_append_right _ (List.mem_append_right _ (List.mem_append_right _ (List.mem_append_right _ (List.mem_append_right _ (List.mem_append_right _ (List.mem_append_right _ (List.mem_append_right _ (List.mem_append_right _ (List.mem_append_right _ (List.mem_append_right _ (List.mem_append_right _ (List.mem_append_right _ (List.mem_append_right _ (List.mem_append_left _ hr)))))))))))))))))))))
theorem fe_L_law_22 : ∀ r ∈ P_L_law_22, fetch 0 r.1 = some r.2 := fun r hr => fe_L_law r (List.mem_append_right _ (List.mem_append_right _ (List.mem_append_right _ (List.mem_append_right _ (List.mem_append_right _ (List.mem_append_right _ (List.mem_append_right _ (List.mem_append_right _ (List.mem_append_right _ (List.mem_append_right _ (List.mem_append_right _ (List.mem_append_right _ (List.mem_append_right _ (List.mem_append_right _ (List.mem_append_right _ (List.mem_append_right _ (List.mem_append_right _ (List.mem_append_right _ (List.mem_append_right _ (List.mem_append_right _ (List.mem_append_right _ (List.mem_append_left _ hr))))))))))))))))))))))
theorem fe_L_law_23 : ∀ r ∈ P_L_law_23, fetch 0 r.1 = some r.2 := fun r hr => fe_L_law r (List.mem_append_right _ (List.mem_append_right _ (List.mem_append_right _ (List.mem_append_right _ (List.mem_append_right _ (List.mem_append_right _ (List.mem_append_right _ (List.mem_append_right _ (List.mem_append_right _ (List.mem_append_right _ (List.mem_append_right _ (List.mem_append_right _ (List.mem_append_right _ (List.mem_append_right _ (List.mem_append_right _ (List.mem_append_right _ (List.mem_append_right _ (List.mem_append_right _ (List.mem_append_right _ (List.mem_append_right _ (List.mem_append_right _ (List.mem_append_right _ (List.mem_append_left _ hr)))))))))))))))))))))))
theorem fe_L_law_24 : ∀ r ∈ P_L_law_24, fetch 0 r.1 = some r.2 := fun r hr => fe_L_law r (List.mem_append_right _ (List.mem_append_right _ (List.mem_append_right _ (List.mem_append_right _ (List.mem_append_right _ (List.mem_append_right _ (List.mem_append_right _ (List.mem_append_right _ (List.mem_append_right _ (List.mem_append_right _ (List.mem_append_right _ (List.mem_append_right _ (List.mem_append_right _ (List.mem_append_right _ (List.mem_append_right _ (List.mem_append_right _ (List.mem_append_right _ (List.mem_append_right _ (List.mem_append_right _ (List.mem_append_right _ (List.mem_append_right _ (List.mem_append_right _ (List.mem_append_right _ (List.mem_append_left _ hr))))))))))))))))))))))))
theorem fe_L_law_25 : ∀ r ∈ P_L_law_25, fetch 0 r.1 = some r.2 := fun r hr => fe_L_law r (List.mem_append_right _ (List.mem_append_right _ (List.mem_append_right _ (List.mem_append_right _ (List.mem_append_right _ (List.mem_append_right _ (List.mem_append_right _ (List.mem_append_right _ (List.mem_append_right _ (List.mem_append_right _ (List.mem_append_right _ (List.mem_append_right _ (List.mem_append_right _ (List.mem_append_right _ (List.mem_append_right _ (List.mem_append_right _ (List.mem_append_right _ (List.mem_append_right _ (List.mem_append_right _ (List.mem_append_right _ (List.mem_append_right _ (List.mem_append_right _ (List.mem_append_right _ (List.mem_append_right _ (List.mem_append_left _ hr)))))))))))))))))))))))))
theorem fe_L_law_26 : ∀ r ∈ P_L_law_26, fetch 0 r.1 = some r.2 := fun r hr => fe_L_law r (List.mem_append_right _ (List.mem_append_right _ (List.mem_append_right _ (List.mem_append_right _ (List.mem_append_right _ (List.mem_append_right _ (List.mem_append_right _ (List.mem_append_right _ (List.mem_append_right _ (List.mem_append_right _ (List.mem_append_right _ (List.mem_append_right _ (List.mem_append_right _ (List.mem_append_right _ (List.mem_append_right _ (List.mem_append_right _ (List.mem_append_right _ (List.mem_append_right _ (List.mem_append_right _ (List.mem_append_right _ (List.mem_append_right _ (List.mem_append_right _ (List.mem_append_right _ (List.mem_append_right _ (List.mem_append_right _ (List.mem_append_left _ hr))))))))))))))))))))))))))
theorem fe_L_law_27 : ∀ r ∈ P_L_law_27, fetch 0 r.1 = some r.2 := fun r hr => fe_L_law r (List.mem_append_right _ (List.mem_append_right _ (List.mem_append_right _ (List.mem_append_right _ (List.mem_append_right _ (List.mem_append_right _ (List.mem_append_right _ (List.mem_append_right _ (List.mem_append_right _ (List.mem_append_right _ (List.mem_append_right _ (List.mem_append_right _ (List.mem_append_right _ (List.mem_append_right _ (List.mem_append_right _ (List.mem_append_right _ (List.mem_append_right _ (List.mem_append_right _ (List.mem_append_right _ (List.mem_append_right _ (List.mem_append_right _ (List.mem_append_right _ (List.mem_append_right _ (List.mem_append_right _ (List.mem_append_right _ (List.mem_append_right _ (List.mem_append_left _ hr)))))))))))))))))))))))))))
theorem fe_L_law_28 : ∀ r ∈ P_L_law_28, fetch 0 r.1 = some r.2 := fun r hr => fe_L_law r (List.mem_append_right _ (List.mem_append_right _ (List.mem_append_right _ (List.mem_append_right _ (List.mem_append_right _ (List.mem_append_right _ (List.mem_append_right _ (List.mem_append_right _ (List.mem_append_right _ (List.mem_append_right _ (List.mem_append_right _ (List.mem_append_right _ (List.mem_append_right _ (List.mem_append_right _ (List.mem_append_right _ (List.mem_append_right _ (List.mem_append_right _ (List.mem_append_right _ (List.mem_append_right _ (List.mem_append_right _ (List.mem_append_right _ (List.mem_append_right _ (List.mem_append_right _ (List.mem_append_right _ (List.mem_append_right _ (List.mem_append_right _ (List.mem_append_right _ (List.mem_append_left _ hr))))))))))))))))))))))))))))
theorem fe_L_law_29 : ∀ r ∈ P_L_law_29, fetch 0 r.1 = some r.2 := fun r hr => fe_L_law r (List.mem_append_right _ (List.mem_append_right _ (List.mem_append_right _ (List.mem_append_right _ (List.mem_append_right _ (List.mem_append_right _ (List.mem_append_right _ (List.mem_append_right _ (List.mem_append_right _ (List.mem_append_right _ (List.mem_append_right _ (List.mem_append_right _ (List.mem_append_right _ (List.mem_append_right _ (List.mem_append_right _ (List.mem_append_right _ (List.mem_append_right _ (List.mem_append_right _ (List.mem_append_right _ (List.mem_append_right _ (List.mem_append_right _ (List.mem_append_right _ (List.mem_append_right _ (List.mem_append_right _ (List.mem_append_right _ (List.mem_append_right _ (List.mem_append_right _ (List.mem_append_right _ (List.mem_append_left _ hr)))))))))))))))))))))))))))))
theorem fe_L_law_30 : ∀ r ∈ P_L_law_30, fetch 0 r.1 = some r.2 := fun r hr => fe_L_law r (List.mem_append_right _ (List.mem_append_right _ (List.mem_append_right _ (List.mem_append_right _ (List.mem_append_right _ (List.mem_append_right _ (List.mem_append_right _ (List.mem_append_right _ (List.mem_append_right _ (List.mem_append_right _ (List.mem_append_right _ (List.mem_append_right _ (List.mem_append_right _ (List.mem_append_right _ (List.mem_append_right _ (List.mem_append_right _ (List.mem_append_right _ (List.mem_append_right _ (List.mem_append_right _ (List.mem_append_right _ (List.mem_append_right _ (List.mem_append_right _ (List.mem_append_right _ (List.mem_append_right _ (List.mem_append_right _ (List.mem_append_right _ (List.mem_append_right _ (List.mem_append_right _ (List.mem_append_right _ (List.mem_append_left _ hr))))))))))))))))))))))))))))))
theorem fe_L_law_31 : ∀ r ∈ P_L_law_31, fetch 0 r.1 = some r.2 := fun r hr => fe_L_law r (List.mem_append_right _ (List.mem_append_right _ (List.mem_append_right _ (List.mem_append_right _ (List.mem_append_right _ (List.mem_append_right _ (List.mem_append_right _ (List.mem_append_right _ (List.mem_append_right _ (List.mem_append_right _ (List.mem_append_right _ (List.mem_append_right _ (List.mem_append_right _ (List.mem_append_right _ (List.mem_append_right _ (List.mem_append_right _ (List.mem_append_right _ (List.mem_append_right _ (List.mem_append_right _ (List.mem_append_right _ (List.mem_append_right _ (List.mem_append_right _ (List.mem_append_right _ (List.mem_append_right _ (List.mem_append_right _ (List.mem_append_right _ (List.mem_append_right _ (List.mem_append_right _ (List.mem_append_right _ (List.mem_append_right _ (List.mem_append_left _ hr)))))))))))))))))))))))))))))))
theorem fe_L_law_32 : ∀ r ∈ P_L_law_32, fetch 0 r.1 = some r.2 := fun r hr => fe_L_law r (List.mem_append_right _ (List.mem_append_right _ (List.mem_append_right _ (List.mem_append_right _ (List.mem_append_right _ (List.mem_append_right _ (List.mem_append_right _ (List.mem_append_right _ (List.mem_append_right _ (List.mem_append_right _ (List.mem_append_right _ (List.mem_append_right _ (List.mem_append_right _ (List.mem_append_right _ (List.mem_append_right _ (List.mem_append_right _ (List.mem_append_right _ (List.mem_append_right _ (List.mem_append_right _ (List.mem_append_right _ (List.mem_append_right _ (List.mem_append_right _ (List.mem_append_right _ (List.mem_append_right _ (List.mem_append_right _ (List.mem_append_right _ (List.mem_append_right _ (List.mem_append_right _ (List.mem_append_right _ (List.mem_append_right _ (List.mem_append_right _ (List.mem_append_left _ hr))))))))))))))))))))))))))))))))
theorem fe_L_law_33 : ∀ r ∈ P_L_law_33, fetch 0 r.1 = some r.2 := fun r hr => fe_L_law r (List.mem_append_right _ (List.mem_append_right _ (List.mem_append_right _ (List.mem_append_right _ (List.mem_append_right _ (List.mem_append_right _ (List.mem_append_right _ (List.mem_append_right _ (List.mem_append_right _ (List.mem_append_right _ (List.mem_append_right _ (List.mem_append_right _ (List.mem_append_right _ (List.mem_append_right _ (List.mem_append_right _ (List.mem_append_right _ (List.mem_append_right _ (List.mem_append_right _ (List.mem_append_right _ (List.mem_append_right _ (List.mem_append_right _ (List.mem_append_right _ (List.mem_append_right _ (List.mem_append_right _ (List.mem_append_right _ (List.mem_append_right _ (List.mem_append_right _ (List.mem_append_right _ (List.mem_append_right _ (List.mem_append_right _ (List.mem_append_right _ (List.mem_append_right _ (List.mem_append_left _ hr)))))))))))))))))))))))))))))))))
theorem fe_L_law_34 : ∀ r ∈ P_L_law_34, fetch 0 r.1 = some r.2 := fun r hr => fe_L_law r (List.mem_append_right _ (List.mem_append_right _ (List.mem_append_right _ (List.mem_append_right _ (List.mem_append_right _ (List.mem_append_right _ (List.mem_append_right _ (List.mem_append_right _ (List.mem_append_right _ (List.mem_append_right _ (List.mem_append_right _ (List.mem_append_right _ (List.mem_append_right _ (List.mem_append_right _ (List.mem_append_right _ (List.mem_append_right _ (List.mem_append_right _ (List.mem_append_right _ (List.mem_append_right _ (List.mem_append_right _ (List.mem_append_right _ (List.mem_append_right _ (List.mem_append_right _ (List.mem_append_right _ (List.mem_append_right _ (List.mem_append_right _ (List.mem_append_right _ (List.mem_append_right _ (List.mem_append_right _ (List.mem_append_right _ (List.mem_append_right _ (List.mem_append_right _ (List.mem_append_right _ (List.mem_append_left _ hr))))))))))))))))))))))))))))))))))
theorem fe_L_law_35 : ∀ r ∈ P_L_law_35, fetch 0 r.1 = some r.2 := fun r hr => fe_L_law r (List.mem_append_right _ (List.mem_append_right _ (List.mem_append_right _ (List.mem_append_right _ (List.mem_append_right _ (List.mem_append_right _ (List.mem_append_right _ (List.mem_append_right _ (List.mem_append_right _ (List.mem_append_right _ (List.mem_append_right _ (List.mem_append_right _ (List.mem_append_right _ (List.mem_append_right _ (List.mem_append_right _ (List.mem_append_right _ (List.mem_append_right _ (List.mem_append_right _ (List.mem_append_right _ (List.mem_append_right _ (List.mem_append_right _ (List.mem_append_right _ (List.mem_append_right _ (List.mem_append_right _ (List.mem_append_right _ (List.mem_append_right _ (List.mem_append_right _ (List.mem_append_right _ (List.mem_append_right _ (List.mem_append_right _ (List.mem_append_right _ (List.mem_append_right _ (List.mem_append_right _ (List.mem_append_right _ (List.mem_append_left _ hr)))))))))))))))))))))))))))))))))))
theorem fe_L_law_36 : ∀ r ∈ P_L_law_36, fetch 0 r.1 = some r.2 := fun r hr => fe_L_law r (List.mem_append_right _ (List.mem_append_right _ (List.mem_append_right _ (List.mem_append_right _ (List.mem_append_right _ (List.mem_append_right _ (List.mem_append_right _ (List.mem_append_right _ (List.mem_append_right _ (List.mem_append_right _ (List.mem_append_right _ (List.mem_append_right _ (List.mem_append_right _ (List.mem_append_right _ (List.mem_append_right _ (List.mem_append_right _ (List.mem_append_right _ (List.mem_append_right _ (List.mem_append_right _ (List.mem_append_right _ (List.mem_append_right _ (List.mem_append_right _ (List.mem_append_right _ (List.mem_append_right _ (List.mem_append_right _ (List.mem_append_right _ (List.mem_append_right _ (List.mem_append_right _ (List.mem_append_right _ (List.mem_append_right _ (List.mem_append_right _ (List.mem_append_right _ (List.mem_append_right _ (List.mem_append_right _ (List.mem_append_right _ (List.mem_append_left _ hr))))))))))))))))))))))))))))))))))))
theorem fe_L_law_37 : ∀ r ∈ P_L_law_37, fetch 0 r.1 = some r.2 := fun r hr => fe_L_law r (List.mem_append_right _ (List.mem_append_right _ (List.mem_append_right _ (List.mem_append_right _ (List.mem_append_right _ (List.mem_append_right _ (List.mem_append_right _ (List.mem_append_right _ (List.mem_append_right _ (List.mem_append_right _ (List.mem_append_right _ (List.mem_append_right _ (List.mem_append_right _ (List.mem_append_right _ (List.mem_append_right _ (List.mem_append_right _ (List.mem_append_right _ (List.mem_append_right _ (List.mem_append_right _ (List.mem_append_right _ (List.mem_append_right _ (List.mem_append_right _ (List.mem_append_right _ (List.mem_append_right _ (List.mem_append_right _ (List.mem_append_right _ (List.mem_append_right _ (List.mem_append_right _ (List.mem_append_right _ (List.mem_append_right _ (List.mem_append_right _ (List.mem_append_right _ (List.mem_append_right _ (List.mem_append_right _ (List.mem_append_right _ (List.mem_append_right _ (List.mem_append_left _ hr)))))))))))))))))))))))))))))))))))))
theorem fe_L_law_38 : ∀ r ∈ P_L_law_38, fetch 0 r.1 = some r.2 := fun r hr => fe_L_law r (List.mem_append_right _ (List.mem_append_right _ (List.mem_append_right _ (List.mem_append_right _ (List.mem_append_right _ (List.mem_append_right _ (List.mem_append_right _ (List.mem_append_right _ (List.mem_append_right _ (List.mem_append_right _ (List.mem_append_right _ (List.mem_append_right _ (List.mem_append_right _ (List.mem_append_right _ (List.mem_append_right _ (List.mem_append_right _ (List.mem_append_right _ (List.mem_append_right _ (List.mem_append_right _ (List.mem_append_right _ (List.mem_append_right _ (List.mem_append_right _ (List.mem_append_right _ (List.mem_append_right _ (List.mem_append_right _ (List.mem_append_right _ (List.mem_append_right _ (List.mem_append_right _ (List.mem_append_right _ (List.mem_append_right _ (List.mem_append_right _ (List.mem_append_right _ (List.mem_append_right _ (List.mem_append_right _ (List.mem_append_right _ (List.mem_append_right _ (List.mem_append_right _ (List.mem_append_left _ hr))))))))))))))))))))))))))))))))))))))
theorem fe_L_law_39 : ∀ r ∈ P_L_law_39, fetch 0 r.1 = some r.2 := fun r hr => fe_L_law r (List.mem_append_right _ (List.mem_append_right _ (List.mem_append_right _ (List.mem_append_right _ (List.mem_append_right _ (List.mem_append_right _ (List.mem_append_right _ (List.mem_append_right _ (List.mem_append_right _ (List.mem_append_right _ (List.mem_append_right _ (List.mem_append_right _ (List.mem_append_right _ (List.mem_append_right _ (List.mem_append_right _ (List.mem_append_right _ (List.mem_append_right _ (List.mem_append_right _ (List.mem_append_right _ (List.mem_append_right _ (List.mem_append_right _ (List.mem_append_right _ (List.mem_append_right _ (List.mem_append_right _ (List.mem_append_right _ (List.mem_append_right _ (List.mem_append_right _ (List.mem_append_right _ (List.mem_append_right _ (List.mem_append_right _ (List.mem_append_right _ (List.mem_append_right _ (List.mem_append_right _ (List.mem_append_right _ (List.mem_append_right _ (List.mem_append_right _ (List.mem_append_right _ (List.mem_append_right _ (List.mem_append_left _ hr)))))))))))))))))))))))))))))))))))))))
theorem fe_L_law_40 : ∀ r ∈ P_L_law_40, fetch 0 r.1 = some r.2 := fun r hr => fe_L_law r (List.mem_append_right _ (List.mem_append_right _ (List.mem_append_right _ (List.mem_append_right _ (List.mem_append_right _ (List.mem_append_right _ (List.mem_append_right _ (List.mem_append_right _ (List.mem_append_right _ (List.mem_append_right _ (List.mem_append_right _ (List.mem_append_right _ (List.mem_append_right _ (List.mem_append_right _ (List.mem_append_right _ (List.mem_append_right _ (List.mem_append_right _ (List.mem_append_right _ (List.mem_append_right _ (List.mem_append_right _ (List.mem_append_right _ (List.mem_append_right _ (List.mem_append_right _ (List.mem_append_right _ (List.mem_append_right _ (List.mem_append_right _ (List.mem_append_right _ (List.mem_append_right _ (List.mem_append_right _ (List.mem_append_right _ (List.mem_append_right _ (List.mem_append_right _ (List.mem_append_right _ (List.mem_append_right _ (List.mem_append_right _ (List.mem_append_right _ (List.mem_append_right _ (List.mem_append_right _ (List.mem_append_right _ (List.mem_append_left _ hr))))))))))))))))))))))))))))))))))))))))
theorem fe_L_law_41 : ∀ r ∈ P_L_law_41, fetch 0 r.1 = some r.2 := fun r hr => fe_L_law r (List.mem_append_right _ (List.mem_append_right _ (List.mem_append_right _ (List.mem_append_right _ (List.mem_append_right _ (List.mem_append_right _ (List.mem_append_right _ (List.mem_append_right _ (List.mem_append_right _ (List.mem_append_right _ (List.mem_append_right _ (List.mem_append_right _ (List.mem_append_right _ (List.mem_append_right _ (List.mem_append_right _ (List.mem_append_right _ (List.mem_append_right _ (List.mem_append_right _ (List.mem_append_right _ (List.mem_append_right _ (List.mem_append_right _ (List.mem_append_right _ (List.mem_append_right _ (List.mem_append_right _ (List.mem_append_right _ (List.mem_append_right _ (List.mem_append_right _ (List.mem_append_right _ (List.mem_append_right _ (List.mem_append_right _ (List.mem_append_right _ (List.mem_append_right _ (List.mem_append_right _ (List.mem_append_right _ (List.mem_append_right _ (List.mem_append_right _ (List.mem_append_right _ (List.mem_append_right _ (List.mem_append_right _ (List.mem_append_right _ (List.mem_append_left _ hr)))))))))))))))))))))))))))))))))))))))))
theorem fe_L_law_42 : ∀ r ∈ P_L_law_42, fetch 0 r.1 = some r.2 := fun r hr => fe_L_law r (List.mem_append_right _ (List.mem_append_right _ (List.mem_append_right _ (List.mem_append_right _ (List.mem_append_right _ (List.mem_append_right _ (List.mem_append_right _ (List.mem_append_right _ (List.mem_append_right _ (List.mem_append_right _ (List.mem_append_right _ (List.mem_append_right _ (List.mem_append_right _ (List.mem_append_right _ (List.mem_append_right _ (List.mem_append_right _ (List.mem_append_right _ (List.mem_append_right _ (List.mem_append_right _ (List.mem_append_right _ (List.mem_append_right _ (List.mem_append_right _ (List.mem_append_right _ (List.mem_append_right _ (List.mem_append_right _ (List.mem_append_right _ (List.mem_append_right _ (List.mem_append_right _ (List.mem_append_right _ (List.mem_append_right _ (List.mem_append_right _ (List.mem_append_right _ (List.mem_append_right _ (List.mem_append_right _ (List.mem_append_right _ (List.mem_append_right _ (List.mem_append_right _ (List.mem_append_right _ (List.mem_append_right _ (List.mem_append_right _ (List.mem_append_right _ (List.mem_append_left _ hr))))))))))))))))))))))))))))))))))))))))))
theorem fe_L_law_43 : ∀ r ∈ P_L_law_43, fetch 0 r.1 = some r.2 := fun r hr => fe_L_law r (List.mem_append_right _ (List.mem_append_right _ (List.mem_append_right _ (List.mem_append_right _ (List.mem_append_right _ (List.mem_append_right _ (List.mem_append_right _ (List.mem_append_right _ (List.mem_append_right _ (List.mem_append_right _ (List.mem_append_right _ (List.mem_append_right _ (List.mem_append_right _ (List.mem_append_right _ (List.mem_append_right _ (List.mem_append_right _ (List.mem_append_right _ (List.mem_append_right _ (List.mem_append_right _ (List.mem_append_right _ (List.mem_append_right _ (List.mem_append_right _ (List.mem_append_right _ (List.mem_append_right _ (List.mem_append_right _ (List.mem_append_right _ (List.mem_append_right _ (List.mem_append_right _ (List.mem_append_right _ (List.mem_append_right _ (List.mem_append_right _ (List.mem_append_right _ (List.mem_append_right _ (List.mem_append_right _ (List.mem_append_right _ (List.mem_append_right _ (List.mem_append_right _ (List.mem_append_right _ (List.mem_append_right _ (List.mem_append_right _ (List.mem_append_right _ (List.mem_append_right _ (List.mem_append_left _ hr)))))))))))))))))))))))))))))))))))))))))))
theorem fe_L_law_44 : ∀ r ∈ P_L_law_44, fetch 0 r.1 = some r.2 := fun r hr => fe_L_law r (List.mem_append_right _ (List.mem_append_right _ (List.mem_append_right _ (List.mem_append_right _ (List.mem_append_right _ (List.mem_append_right _ (List.mem_append_right _ (List.mem_append_right _ (List.mem_append_right _ (List.mem_append_right _ (List.mem_append_right _ (List.mem_append_right _ (List.mem_append_right _ (List.mem_append_right _ (List.mem_append_right _ (List.mem_append_right _ (List.mem_append_right _ (List.mem_append_right _ (List.mem_append_right _ (List.mem_append_right _ (List.mem_append_right _ (List.mem_append_right _ (List.mem_append_right _ (List.mem_append_right _ (List.mem_append_right _ (List.mem_append_right _ (List.mem_append_right _ (List.mem_append_right _ (List.mem_append_right _ (List.mem_append_right _ (List.mem_append_right _ (List.mem_append_right _ (List.mem_append_right _ (List.mem_append_right _ (List.mem_append_right _ (List.mem_append_right _ (List.mem_append_right _ (List.mem_append_right _ (List.mem_append_right _ (List.mem_append_right _ (List.mem_append_right _ (List.mem_append_right _ (List.mem_append_right _ (List.mem_append_left _ hr))))))))))))))))))))))))))))))))))))))))))))
theorem fe_L_law_45 : ∀ r ∈ P_L_law_45, fetch 0 r.1 = some r.2 := fun r hr => fe_L_law r (List.mem_append_right _ (List.mem_append_right _ (List.mem_append_right _ (List.mem_append_right _ (List.mem_append_right _ (List.mem_append_right _ (List.mem_append_right _ (List.mem_append_right _ (List.mem_append_right _ (List.mem_append_right _ (List.mem_append_right _ (List.mem_append_right _ (List.mem_append_right _ (List.mem_append_right _ (List.mem_append_right _ (List.mem_append_right _ (List.mem_append_right _ (List.mem_append_right _ (List.mem_append_right _ (List.mem_append_right _ (List.mem_append_right _ (List.mem_append_right _ (List.mem_append_right _ (List.mem_append_right _ (List.mem_append_right _ (List.mem_append_right _ (List.mem_append_right _ (List.mem_append_right _ (List.mem_append_right _ (List.mem_append_right _ (List.mem_append_right _ (List.mem_append_right _ (List.mem_append_right _ (List.mem_append_right _ (List.mem_append_right _ (List.mem_append_right _ (List.mem_append_right _ (List.mem_append_right _ (List.mem_append_right _ (List.mem_append_right _ (List.mem_append_right _ (List.mem_append_right _ (List.mem_append_right _ (List.mem_append_right _ (List.mem_append_left _ hr)))))))))))))))))))))))))))))))))))))))))))))
theorem fe_L_law_46 : ∀ r ∈ P_L_law_46, fetch 0 r.1 = some r.2 := fun r hr => fe_L_law r (List.mem_append_right _ (List.mem_append_right _ (List.mem_append_right _ (List.mem_append_right _ (List.mem_append_right _ (List.mem_append_right _ (List.mem_append_right _ (List.mem_append_right _ (List.mem_append_right _ (List.mem_append_right _ (List.mem_append_right _ (List.mem_append_right _ (List.mem_append_right _ (List.mem_append_right _ (List.mem_append_right _ (List.mem_append_right _ (List.mem_append_right _ (List.mem_append_right _ (List.mem_append_right _ (List.mem_append_right _ (List.mem_append_right _ (List.mem_append_right _ (List.mem_append_right _ (List.mem_append_right _ (List.mem_append_right _ (List.mem_append_right _ (List.mem_append_right _ (List.mem_append_right _ (List.mem_append_right _ (List.mem_append_right _ (List.mem_append_right _ (List.mem_append_right _ (List.mem_append_right _ (List.mem_append_right _ (List.mem_append_right _ (List.mem_append_right _ (List.mem_append_right _ (List.mem_append_right _ (List.mem_append_right _ (List.mem_append_right _ (List.mem_append_right _ (List.mem_append_right _ (List.mem_append_right _ (List.mem_append_right _ (List.mem_append_right _ (List.mem_append_left _ hr))))))))))))))))))))))))))))))))))))))))))))))
theorem fe_L_law_47 : ∀ r ∈ P_L_law_47, fetch 0 r.1 = some r.2 := fun r hr => fe_L_law r (List.mem_append_right _ (List.mem_append_right _ (List.mem_append_right _ (List.mem_append_right _ (List.mem_append_right _ (List.mem_append_right _ (List.mem_append_right _ (List.mem_append_right _ (List.mem_append_right _ (List.mem_append_right _ (List.mem_append_right _ (List.mem_append_right _ (List.mem_append_right _ (List.mem_append_right _ (List.mem_append_right _ (List.mem_append_right _ (List.mem_append_right _ (List.mem_append_right _ (List.mem_append_right _ (List.mem_append_right _ (List.mem_append_right _ (List.mem_append_right _ (List.mem_append_right _ (List.mem_append_right _ (List.mem_append_right _ (List.mem_append_right _ (List.mem_append_right _ (List.mem_append_right _ (List.mem_append_right _ (List.mem_append_right _ (List.mem_append_right _ (List.mem_append_right _ (List.mem_append_right _ (List.mem_append_right _ (List.mem_append_right _ (List.mem_append_right _ (List.mem_append_right _ (List.mem_append_right _ (List.mem_append_right _ (List.mem_append_right _ (List.mem_append_right _ (List.mem_append_right _ (List.mem_append_right _ (List.mem_append_right _ (List.mem_append_right _ (List.mem_append_right _ (List.mem_append_left _ hr)))))))))))))))))))))))))))))))))))))))))))))))
theorem fe_L_law_48 : ∀ r ∈ P_L_law_48, fetch 0 r.1 = some r.2 := fun r hr => fe_L_law r (List.mem_append_right _ (List.mem_append_right _ (List.mem_append_right _ (List.mem_append_right _ (List.mem_append_right _ (List.mem_append_right _ (List.mem_append_right _ (List.mem_append_right _ (List.mem_append_right _ (List.mem_append_right _ (List.mem_append_right _ (List.mem_append_right _ (List.mem_append_right _ (List.mem_append_right _ (List.mem_append_right _ (List.mem_append_right _ (List.mem_append_right _ (List.mem_append_right _ (List.mem_append_right _ (List.mem_append_right _ (List.mem_append_right _ (List.mem_append_right _ (List.mem_append_right _ (List.mem_append_right _ (List.mem_append_right _ (List.mem_append_right _ (List.mem_append_right _ (List.mem_append_right _ (List.mem_append_right _ (List.mem_append_right _ (List.mem_append_right _ (List.mem_append_right _ (List.mem_append_right _ (List.mem_append_right _ (List.mem_append_right _ (List.mem_append_right _ (List.mem_append_right _ (List.mem_append_right _ (List.mem_append_right _ (List.mem_append_right _ (List.mem_append_right _ (List.mem_append_right _ (List.mem_append_right _ (List.mem_append_right _ (List.mem_append_right _ (List.mem_append_right _ (List.mem_append_right _ (List.mem_append_left _ hr))))))))))))))))))))))))))))))))))))))))))))))))
theorem fe_L_law_49 : ∀ r ∈ P_L_law_49, fetch 0 r.1 = some r.2 := fun r hr => fe_L_law r (List.mem_append_right _ (List.mem_append_right _ (List.mem_append_right _ (List.mem_append_right _ (List.mem_append_right _ (List.mem_append_right _ (List.mem_append_right _ (List.mem_append_right _ (List.mem_append_right _ (List.mem_append_right _ (List.mem_append_right _ (List.mem_append_right _ (List.mem_append_right _ (List.mem_append_right _ (List.mem_append_right _ (List.mem_append_right _ (List.mem_append_right _ (List.mem_append_right _ (List.mem_append_right _ (List.mem_append_right _ (List.mem_append_right _ (List.mem_append_right _ (List.mem_append_right _ (List.mem_append_right _ (List.mem_append_right _ (List.mem_append_right _ (List.mem_append_right _ (List.mem_append_right _ (List.mem_append_right _ (List.mem_append_right _ (List.mem_append_right _ (List.mem_append_right _ (List.mem_append_right _ (List.mem_append_right _ (List.mem_append_right _ (List.mem_append_right _ (List.mem_append_right _ (List.mem_append_right _ (List.mem_append_right _ (List.mem_append_right _ (List.mem_append_right _ (List.mem_append_right _ (List.mem_append_right _ (List.mem_append_right _ (List.mem_append_right _ (List.mem_append_right _ (List.mem_append_right _ (List.mem_append_right _ (List.mem_append_left _ hr)))))))))))))))))))))))))))))))))))))))))))))))))
theorem fe_L_law_50 : ∀ r ∈ P_L_law_50, fetch 0 r.1 = some r.2 := fun r hr => fe_L_law r (List.mem_append_right _ (List.mem_append_right _ (List.mem_append_right _ (List.mem_append_right _ (List.mem_append_right _ (List.mem_append_right _ (List.mem_append_right _ (List.mem_append_right _ (List.mem_append_right _ (List.mem_append_right _ (List.mem_append_right _ (List.mem_append_right _ (List.mem_append_right _ (List.mem_append_right _ (List.mem_append_right _ (List.mem_append_right _ (List.mem_append_right _ (List.mem_append_right _ (List.mem_append_right _ (List.mem_append_right _ (List.mem_append_right _ (List.mem_append_right _ (List.mem_append_right _ (List.mem_append_right _ (List.mem_append_right _ (List.mem_append_right _ (List.mem_append_right _ (List.mem_append_right _ (List.mem_append_right _ (List.mem_append_right _ (List.mem_append_right _ (List.mem_append_right _ (List.mem_append_right _ (List.mem_append_right _ (List.mem_append_right _ (List.mem_append_right _ (List.mem_append_right _ (List.mem_append_right _ (List.mem_append_right _ (List.mem_append_right _ (List.mem_append_right _ (List.mem_append_right _ (List.mem_append_right _ (List.mem_append_right _ (List.mem_append_right _ (List.mem_append_right _ (List.mem_append_right _ (List.mem_append_right _ (List.mem_append_right _ (List.mem_append_left _ hr))))))))))))))))))))))))))))))))))))))))))))))))))
theorem fe_L_law_51 : ∀ r ∈ P_L_law_51, fetch 0 r.1 = some r.2 := fun r hr => fe_L_law r (List.mem_append_right _ (List.mem_append_right _ (List.mem_append_right _ (List.mem_append_right _ (List.mem_append_right _ (List.mem_append_right _ (List.mem_append_right _ (List.mem_append_right _ (List.mem_append_right _ (List.mem_append_right _ (List.mem_append_right _ (List.mem_append_right _ (List.mem_append_right _ (List.mem_append_right _ (List.mem_append_right _ (List.mem_append_right _ (List.mem_append_right _ (List.mem_append_right _ (List.mem_append_right _ (List.mem_append_right _ (List.mem_append_right _ (List.mem_append_right _ (List.mem_append_right _ (List.mem_append_right _ (List.mem_append_right _ (List.mem_append_right _ (List.mem_append_right _ (List.mem_append_right _ (List.mem_append_right _ (List.mem_append_right _ (List.mem_append_right _ (List.mem_append_right _ (List.mem_append_right _ (List.mem_append_right _ (List.mem_append_right _ (List.mem_append_right _ (List.mem_append_right _ (List.mem_append_right _ (List.mem_append_right _ (List.mem_append_right _ (List.mem_append_right _ (List.mem_append_right _ (List.mem_append_right _ (List.mem_append_right _ (List.mem_append_right _ (List.mem_append_right _ (List.mem_append_right _ (List.mem_append_right _ (List.mem_append_right _ (List.mem_append_right _ (List.mem_append_left _ hr)))))))))))))))))))))))))))))))))))))))))))))))))))
theorem fe_L_law_52 : ∀ r ∈ P_L_law_52, fetch 0 r.1 = some r.2 := fun r hr => fe_L_law r (List.mem_append_right _ (List.mem_append_right _ (List.mem_append_right _ (List.mem_append_right _ (List.mem_append_right _ (List.mem_append_right _ (List.mem_append_right _ (List.mem_append_right _ (List.mem_append_right _ (List.mem_append_right _ (List.mem_append_right _ (List.mem_append_right _ (List.mem_append_right _ (List.mem_append_right _ (List.mem_append_right _ (List.mem_append_right _ (List.mem_append_right _ (List.mem_append_right _ (List.mem_append_right _ (List.mem_append_right _ (List.mem_append_right _ (List.mem_append_right _ (List.mem_append_right _ (List.mem_append_right _ (List.mem_append_right _ (List.mem_append_right _ (List.mem_append_right _ (List.mem_append_right _ (List.mem_append_right _ (List.mem_append_right _ (List.mem_append_right _ (List.mem_append_right _ (List.mem_append_right _ (List.mem_append_right _ (List.mem_append_right _ (List.mem_append_right _ (List.mem_append_right _ (List.mem_append_right _ (List.mem_append_right _ (List.mem_append_right _ (List.mem_append_right _ (List.mem_append_right _ (List.mem_append_right _ (List.mem_append_right _ (List.mem_append_right _ (List.mem_append_right _ (List.mem_append_right _ (List.mem_append_right _ (List.mem_append_right _ (List.mem_append_right _ (List.mem_append_right _ (List.mem_append_left _ hr))))))))))))))))))))))))))))))))))))))))))))))))))))
theorem fe_L_law_53 : ∀ r ∈ P_L_law_53, fetch 0 r.1 = some r.2 := fun r hr => fe_L_law r (List.mem_append_right _ (List.mem_append_right _ (List.mem_append_right _ (List.mem_append_right _ (List.mem_append_right _ (List.mem_append_right _ (List.mem_append_right _ (List.mem_append_right _ (List.mem_append_right _ (List.mem_append_right _ (List.mem_append_right _ (List.mem_append_right _ (List.mem_append_right _ (List.mem_append_right _ (List.mem_append_right _ (List.mem_append_right _ (List.mem_append_right _ (List.mem_append_right _ (List.mem_append_right _ (List.mem_append_right _ (List.mem_append_right _ (List.mem_append_right _ (List.mem_append_right _ (List.mem_append_right _ (List.mem_append_right _ (List.mem_append_right _ (List.mem_append_right _ (List.mem_append_right _ (List.mem_append_right _ (List.mem_append_right _ (List.mem_append_right _ (List.mem_append_right _ (List.mem_append_right _ (List.mem_append_right _ (List.mem_append_right _ (List.mem_append_right _ (List.mem_append_right _ (List.mem_append_right _ (List.mem_append_right _ (List.mem_append_right _ (List.mem_append_right _ (List.mem_append_right _ (List.mem_append_right _ (List.mem_append_right _ (List.mem_append_right _ (List.mem_append_right _ (List.mem_append_right _ (List.mem_append_right _ (List.mem_append_right _ (List.mem_append_right _ (List.mem_append_right _ (List.mem_append_right _ (hr)))))))))))))))))))))))))))))))))))))))))))))))))))))
theorem ckS_X0_init : chkS M_X0_init P_X0_init 0 M_X0_init.2.2.2.1.data.toList = true := by decide +kernel
theorem ckI_X0_init : P_X0_init.all (fun q => chkI M_X0_init q.1 q.2) = true := List.all_eq_true.mpr (chkS_ok _ 0 _ List.drop_zero ckS_X0_init).1
theorem fe_X0_init : ∀ r ∈ P_X0_init, fetch 1 r.1 = some r.2 := fe_of rfl (chkS_ok _ 0 _ List.drop_zero ckS_X0_init).2
theorem fe_X0_init_1 : ∀ r ∈ P_X0_init_1, fetch 1 r.1 = some r.2 := fun r hr => fe_X0_init r (List.mem_append_left _ hr)
theorem fe_X0_init_2 : ∀ r ∈ P_X0_init_2, fetch 1 r.1 = some r.2 := fun r hr => fe_X0_init r (List.mem_append_right _ (hr))
theorem ckS_X0_become : chkS M_X0_become P_X0_become 0 M_X0_become.2.2.2.1.data.toList = true := by decide +kernel
theorem ckI_X0_become : P_X0_become.all (fun q => chkI M_X0_become q.1 q.2) = true := List.all_eq_true.mpr (chkS_ok _ 0 _ List.drop_zero ckS_X0_become).1
theorem fe_X0_become : ∀ r ∈ P_X0_become, fetch 2 r.1 = some r.2 := fe_of rfl (chkS_ok _ 0 _ List.drop_zero ckS_X0_become).2
theorem ckS_X1_init : chkS M_X1_init P_X1_init 0 M_X1_init.2.2.2.1.data.toList = true := by decide +kernel
theorem ckI_X1_init : P_X1_init.all (fun q => chkI M_X1_init q.1 q.2) = true := List.all_eq_true.mpr (chkS_ok _ 0 _ List.drop_zero ckS_X1_init).1
theorem fe_X1_init : ∀ r ∈ P_X1_init, fetch 3 r.1 = some r.2 := fe_of rfl (chkS_ok _ 0 _ List.drop_zero ckS_X1_init).2
theorem ckS_X1_wander : chkS M_X1_wander P_X1_wander 0 M_X1_wander.2.2.2.1.data.toList = true := by decide +kernel
theorem ckI_X1_wander : P_X1_wander.all (fun q => chkI M_X1_wander q.1 q.2) = true := List.all_eq_true.mpr (chkS_ok _ 0 _ List.drop_zero ckS_X1_wander).1
theorem fe_X1_wander : ∀ r ∈ P_X1_wander, fetch 4 r.1 = some r.2 := fe_of rfl (chkS_ok _ 0 _ List.drop_zero ckS_X1_wander).2
theorem ckS_X1_ease : chkS M_X1_ease P_X1_ease 0 M_X1_ease.2.2.2.1.data.toList = true := by decide +kernel
theorem ckI_X1_ease : P_X1_ease.all (fun q => chkI M_X1_ease q.1 q.2) = true := List.all_eq_true.mpr (chkS_ok _ 0 _ List.drop_zero ckS_X1_ease).1
theorem fe_X1_ease : ∀ r ∈ P_X1_ease, fetch 5 r.1 = some r.2 := fe_of rfl (chkS_ok _ 0 _ List.drop_zero ckS_X1_ease).2
theorem fe_X1_ease_1 : ∀ r ∈ P_X1_ease_1, fetch 5 r.1 = some r.2 := fun r hr => fe_X1_ease r (List.mem_append_left _ hr)
theorem fe_X1_ease_2 : ∀ r ∈ P_X1_ease_2, fetch 5 r.1 = some r.2 := fun r hr => fe_X1_ease r (List.mem_append_right _ (hr))
theorem ckS_X1_tears : chkS M_X1_tears P_X1_tears 0 M_X1_tears.2.2.2.1.data.toList = true := by decide +kernel
theorem ckI_X1_tears : P_X1_tears.all (fun q => chkI M_X1_tears q.1 q.2) = true := List.all_eq_true.mpr (chkS_ok _ 0 _ List.drop_zero ckS_X1_tears).1
theorem fe_X1_tears : ∀ r ∈ P_X1_tears, fetch 6 r.1 = some r.2 := fe_of rfl (chkS_ok _ 0 _ List.drop_zero ckS_X1_tears).2
theorem ckS_X1_sticks : chkS M_X1_sticks P_X1_sticks 0 M_X1_sticks.2.2.2.1.data.toList = true := by decide +kernel
theorem ckI_X1_sticks : P_X1_sticks.all (fun q => chkI M_X1_sticks q.1 q.2) = true := List.all_eq_true.mpr (chkS_ok _ 0 _ List.drop_zero ckS_X1_sticks).1
theorem fe_X1_sticks : ∀ r ∈ P_X1_sticks, fetch 7 r.1 = some r.2 := fe_of rfl (chkS_ok _ 0 _ List.drop_zero ckS_X1_sticks).2
theorem ckS_X1_says : chkS M_X1_says P_X1_says 0 M_X1_says.2.2.2.1.data.toList = true := by decide +kernel
theorem ckI_X1_says : P_X1_says.all (fun q => chkI M_X1_says q.1 q.2) = true := List.all_eq_true.mpr (chkS_ok _ 0 _ List.drop_zero ckS_X1_says).1
theorem fe_X1_says : ∀ r ∈ P_X1_says, fetch 8 r.1 = some r.2 := fe_of rfl (chkS_ok _ 0 _ List.drop_zero ckS_X1_says).2
theorem fe_X1_says_1 : ∀ r ∈ P_X1_says_1, fetch 8 r.1 = some r.2 := fun r hr => fe_X1_says r (List.mem_append_left _ hr)
theorem fe_X1_says_2 : ∀ r ∈ P_X1_says_2, fetch 8 r.1 = some r.2 := fun r hr => fe_X1_says r (List.mem_append_right _ (hr))
theorem ckS_X2_init : chkS M_X2_init P_X2_init 0 M_X2_init.2.2.2.1.data.toList = true := by decide +kernel
theorem ckI_X2_init : P_X2_init.all (fun q => chkI M_X2_init q.1 q.2) = true := List.all_eq_true.mpr (chkS_ok _ 0 _ List.drop_zero ckS_X2_init).1
theorem fe_X2_init : ∀ r ∈ P_X2_init, fetch 9 r.1 = some r.2 := fe_of rfl (chkS_ok _ 0 _ List.drop_zero ckS_X2_init).2
theorem ckS_X2_add : chkS M_X2_add P_X2_add 0 M_X2_add.2.2.2.1.data.toList = true := by decide +kernel
theorem ckI_X2_add : P_X2_add.all (fun q => chkI M_X2_add q.1 q.2) = true := List.all_eq_true.mpr (chkS_ok _ 0 _ List.drop_zero ckS_X2_add).1
theorem fe_X2_add : ∀ r ∈ P_X2_add, fetch 10 r.1 = some r.2 := fe_of rfl (chkS_ok _ 0 _ List.drop_zero ckS_X2_add).2
theorem ckS_X2_empty : chkS M_X2_empty P_X2_empty 0 M_X2_empty.2.2.2.1.data.toList = true := by decide +kernel
theorem ckI_X2_empty : P_X2_empty.all (fun q => chkI M_X2_empty q.1 q.2) = true := List.all_eq_true.mpr (chkS_ok _ 0 _ List.drop_zero ckS_X2_empty).1
theorem fe_X2_empty : ∀ r ∈ P_X2_empty, fetch 11 r.1 = some r.2 := fe_of rfl (chkS_ok _ 0 _ List.drop_zero ckS_X2_empty).2
theorem ckS_X2_read : chkS M_X2_read P_X2_read 0 M_X2_read.2.2.2.1.data.toList = true := by decide +kernel
theorem ckI_X2_read : P_X2_read.all (fun q => chkI M_X2_read q.1 q.2) = true := List.all_eq_true.mpr (chkS_ok _ 0 _ List.drop_zero ckS_X2_read).1
theorem fe_X2_read : ∀ r ∈ P_X2_read, fetch 12 r.1 = some r.2 := fe_of rfl (chkS_ok _ 0 _ List.drop_zero ckS_X2_read).2
theorem fe_X2_read_1 : ∀ r ∈ P_X2_read_1, fetch 12 r.1 = some r.2 := fun r hr => fe_X2_read r (List.mem_append_left _ hr)
theorem fe_X2_read_2 : ∀ r ∈ P_X2_read_2, fetch 12 r.1 = some r.2 := fun r hr => fe_X2_read r (List.mem_append_right _ (hr))
theorem ckS_X2_readEither : chkS M_X2_readEither P_X2_readEither 0 M_X2_readEither.2.2.2.1.data.toList = true := by decide +kernel
theorem ckI_X2_readEither : P_X2_readEither.all (fun q => chkI M_X2_readEither q.1 q.2) = true := List.all_eq_true.mpr (chkS_ok _ 0 _ List.drop_zero ckS_X2_readEither).1
theorem fe_X2_readEither : ∀ r ∈ P_X2_readEither, fetch 13 r.1 = some r.2 := fe_of rfl (chkS_ok _ 0 _ List.drop_zero ckS_X2_readEither).2
theorem fe_X2_readEither_1 : ∀ r ∈ P_X2_readEither_1, fetch 13 r.1 = some r.2 := fun r hr => fe_X2_readEither r (List.mem_append_left _ hr)
theorem fe_X2_readEither_2 : ∀ r ∈ P_X2_readEither_2, fetch 13 r.1 = some r.2 := fun r hr => fe_X2_readEither r (List.mem_append_right _ (hr))
theorem ckS_X2_readBoth : chkS M_X2_readBoth P_X2_readBoth 0 M_X2_readBoth.2.2.2.1.data.toList = true := by decide +kernel
theorem ckI_X2_readBoth : P_X2_readBoth.all (fun q => chkI M_X2_readBoth q.1 q.2) = true := List.all_eq_true.mpr (chkS_ok _ 0 _ List.drop_zero ckS_X2_readBoth).1
theorem fe_X2_readBoth : ∀ r ∈ P_X2_readBoth, fetch 14 r.1 = some r.2 := fe_of rfl (chkS_ok _ 0 _ List.drop_zero ckS_X2_readBoth).2
theorem fe_X2_readBoth_1 : ∀ r ∈ P_X2_readBoth_1, fetch 14 r.1 = some r.2 := fun r hr => fe_X2_readBoth r (List.mem_append_left _ hr)
theorem fe_X2_readBoth_2 : ∀ r ∈ P_X2_readBoth_2, fetch 14 r.1 = some r.2 := fun r hr => fe_X2_readBoth r (List.mem_append_right _ (hr))
theorem ckS_X2_readNot : chkS M_X2_readNot P_X2_readNot 0 M_X2_readNot.2.2.2.1.data.toList = true := by decide +kernel
theorem ckI_X2_readNot : P_X2_readNot.all (fun q => chkI M_X2_readNot q.1 q.2) = true := List.all_eq_true.mpr (chkS_ok _ 0 _ List.drop_zero ckS_X2_readNot).1
theorem fe_X2_readNot : ∀ r ∈ P_X2_readNot, fetch 15 r.1 = some r.2 := fe_of rfl (chkS_ok _ 0 _ List.drop_zero ckS_X2_readNot).2
theorem ckS_X2_readCompared : chkS M_X2_readCompared P_X2_readCompared 0 M_X2_readCompared.2.2.2.1.data.toList = true := by decide +kernel
theorem ckI_X2_readCompared : P_X2_readCompared.all (fun q => chkI M_X2_readCompared q.1 q.2) = true := List.all_eq_true.mpr (chkS_ok _ 0 _ List.drop_zero ckS_X2_readCompared).1
theorem fe_X2_readCompared : ∀ r ∈ P_X2_readCompared, fetch 16 r.1 = some r.2 := fe_of rfl (chkS_ok _ 0 _ List.drop_zero ckS_X2_readCompared).2
theorem fe_X2_readCompared_1 : ∀ r ∈ P_X2_readCompared_1, fetch 16 r.1 = some r.2 := fun r hr => fe_X2_readCompared r (List.mem_append_left _ hr)
theorem fe_X2_readCompared_2 : ∀ r ∈ P_X2_readCompared_2, fetch 16 r.1 = some r.2 := fun r hr => fe_X2_readCompared r (List.mem_append_right _ (hr))
theorem ckS_X2_readSum : chkS M_X2_readSum P_X2_readSum 0 M_X2_readSum.2.2.2.1.data.toList = true := by decide +kernel
theorem ckI_X2_readSum : P_X2_readSum.all (fun q => chkI M_X2_readSum q.1 q.2) = true := List.all_eq_true.mpr (chkS_ok _ 0 _ List.drop_zero ckS_X2_readSum).1
theorem fe_X2_readSum : ∀ r ∈ P_X2_readSum, fetch 17 r.1 = some r.2 := fe_of rfl (chkS_ok _ 0 _ List.drop_zero ckS_X2_readSum).2
theorem fe_X2_readSum_1 : ∀ r ∈ P_X2_readSum_1, fetch 17 r.1 = some r.2 := fun r hr => fe_X2_readSum r (List.mem_append_left _ hr)
theorem fe_X2_readSum_2 : ∀ r ∈ P_X2_readSum_2, fetch 17 r.1 = some r.2 := fun r hr => fe_X2_readSum r (List.mem_append_right _ (hr))
theorem ckS_X2_readProduct : chkS M_X2_readProduct P_X2_readProduct 0 M_X2_readProduct.2.2.2.1.data.toList = true := by decide +kernel
theorem ckI_X2_readProduct : P_X2_readProduct.all (fun q => chkI M_X2_readProduct q.1 q.2) = true := List.all_eq_true.mpr (chkS_ok _ 0 _ List.drop_zero ckS_X2_readProduct).1
theorem fe_X2_readProduct : ∀ r ∈ P_X2_readProduct, fetch 18 r.1 = some r.2 := fe_of rfl (chkS_ok _ 0 _ List.drop_zero ckS_X2_readProduct).2
theorem fe_X2_readProduct_1 : ∀ r ∈ P_X2_readProduct_1, fetch 18 r.1 = some r.2 := fun r hr => fe_X2_readProduct r (List.mem_append_left _ hr)
theorem fe_X2_readProduct_2 : ∀ r ∈ P_X2_readProduct_2, fetch 18 r.1 = some r.2 := fun r hr => fe_X2_readProduct r (List.mem_append_right _ (hr))
theorem ckS_X2_readOne : chkS M_X2_readOne P_X2_readOne 0 M_X2_readOne.2.2.2.1.data.toList = true := by decide +kernel
theorem ckI_X2_readOne : P_X2_readOne.all (fun q => chkI M_X2_readOne q.1 q.2) = true := List.all_eq_true.mpr (chkS_ok _ 0 _ List.drop_zero ckS_X2_readOne).1
theorem fe_X2_readOne : ∀ r ∈ P_X2_readOne, fetch 19 r.1 = some r.2 := fe_of rfl (chkS_ok _ 0 _ List.drop_zero ckS_X2_readOne).2
theorem fe_X2_readOne_1 : ∀ r ∈ P_X2_readOne_1, fetch 19 r.1 = some r.2 := fun r hr => fe_X2_readOne r (List.mem_append_left _ hr)
theorem fe_X2_readOne_2 : ∀ r ∈ P_X2_readOne_2, fetch 19 r.1 = some r.2 := fun r hr => fe_X2_readOne r (List.mem_append_right _ (List.mem_append_left _ hr))
theorem fe_X2_readOne_3 : ∀ r ∈ P_X2_readOne_3, fetch 19 r.1 = some r.2 := fun r hr => fe_X2_readOne r (List.mem_append_right _ (List.mem_append_right _ (List.mem_append_left _ hr)))
theorem fe_X2_readOne_4 : ∀ r ∈ P_X2_readOne_4, fetch 19 r.1 = some r.2 := fun r hr => fe_X2_readOne r (List.mem_append_right _ (List.mem_append_right _ (List.mem_append_right _ (hr))))
theorem ckS_X2_advance : chkS M_X2_advance P_X2_advance 0 M_X2_advance.2.2.2.1.data.toList = true := by decide +kernel
theorem ckI_X2_advance : P_X2_advance.all (fun q => chkI M_X2_advance q.1 q.2) = true := List.all_eq_true.mpr (chkS_ok _ 0 _ List.drop_zero ckS_X2_advance).1
theorem fe_X2_advance : ∀ r ∈ P_X2_advance, fetch 20 r.1 = some r.2 := fe_of rfl (chkS_ok _ 0 _ List.drop_zero ckS_X2_advance).2
theorem fe_X2_advance_1 : ∀ r ∈ P_X2_advance_1, fetch 20 r.1 = some r.2 := fun r hr => fe_X2_advance r (List.mem_append_left _ hr)
theorem fe_X2_advance_2 : ∀ r ∈ P_X2_advance_2, fetch 20 r.1 = some r.2 := fun r hr => fe_X2_advance r (List.mem_append_right _ (List.mem_append_left _ hr))
theorem fe_X2_advance_3 : ∀ r ∈ P_X2_advance_3, fetch 20 r.1 = some r.2 := fun r hr => fe_X2_advance r (List.mem_append_right _ (List.mem_append_right _ (hr)))
theorem ckS_X2_byteAt : chkS M_X2_byteAt P_X2_byteAt 0 M_X2_byteAt.2.2.2.1.data.toList = true := by decide +kernel
theorem ckI_X2_byteAt : P_X2_byteAt.all (fun q => chkI M_X2_byteAt q.1 q.2) = true := List.all_eq_true.mpr (chkS_ok _ 0 _ List.drop_zero ckS_X2_byteAt).1
theorem fe_X2_byteAt : ∀ r ∈ P_X2_byteAt, fetch 21 r.1 = some r.2 := fe_of rfl (chkS_ok _ 0 _ List.drop_zero ckS_X2_byteAt).2
theorem ckS_X2_isLetter : chkS M_X2_isLetter P_X2_isLetter 0 M_X2_isLetter.2.2.2.1.data.toList = true := by decide +kernel
theorem ckI_X2_isLetter : P_X2_isLetter.all (fun q => chkI M_X2_isLetter q.1 q.2) = true := List.all_eq_true.mpr (chkS_ok _ 0 _ List.drop_zero ckS_X2_isLetter).1
theorem fe_X2_isLetter : ∀ r ∈ P_X2_isLetter, fetch 22 r.1 = some r.2 := fe_of rfl (chkS_ok _ 0 _ List.drop_zero ckS_X2_isLetter).2
theorem ckS_X2_isDigit : chkS M_X2_isDigit P_X2_isDigit 0 M_X2_isDigit.2.2.2.1.data.toList = true := by decide +kernel
theorem ckI_X2_isDigit : P_X2_isDigit.all (fun q => chkI M_X2_isDigit q.1 q.2) = true := List.all_eq_true.mpr (chkS_ok _ 0 _ List.drop_zero ckS_X2_isDigit).1
theorem fe_X2_isDigit : ∀ r ∈ P_X2_isDigit, fetch 23 r.1 = some r.2 := fe_of rfl (chkS_ok _ 0 _ List.drop_zero ckS_X2_isDigit).2
theorem ckS_X2_readNumber : chkS M_X2_readNumber P_X2_readNumber 0 M_X2_readNumber.2.2.2.1.data.toList = true := by decide +kernel
theorem ckI_X2_readNumber : P_X2_readNumber.all (fun q => chkI M_X2_readNumber q.1 q.2) = true := List.all_eq_true.mpr (chkS_ok _ 0 _ List.drop_zero ckS_X2_readNumber).1
theorem fe_X2_readNumber : ∀ r ∈ P_X2_readNumber, fetch 24 r.1 = some r.2 := fe_of rfl (chkS_ok _ 0 _ List.drop_zero ckS_X2_readNumber).2
theorem fe_X2_readNumber_1 : ∀ r ∈ P_X2_readNumber_1, fetch 24 r.1 = some r.2 := fun r hr => fe_X2_readNumber r (List.mem_append_left _ hr)
theorem fe_X2_readNumber_2 : ∀ r ∈ P_X2_readNumber_2, fetch 24 r.1 = some r.2 := fun r hr => fe_X2_readNumber r (List.mem_append_right _ (List.mem_append_left _ hr))
theorem fe_X2_readNumber_3 : ∀ r ∈ P_X2_readNumber_3, fetch 24 r.1 = some r.2 := fun r hr => fe_X2_readNumber r (List.mem_append_right _ (List.mem_append_right _ (hr)))
theorem ckS_X2_readWord : chkS M_X2_readWord P_X2_readWord 0 M_X2_readWord.2.2.2.1.data.toList = true := by decide +kernel
theorem ckI_X2_readWord : P_X2_readWord.all (fun q => chkI M_X2_readWord q.1 q.2) = true := List.all_eq_true.mpr (chkS_ok _ 0 _ List.drop_zero ckS_X2_readWord).1
theorem fe_X2_readWord : ∀ r ∈ P_X2_readWord, fetch 25 r.1 = some r.2 := fe_of rfl (chkS_ok _ 0 _ List.drop_zero ckS_X2_readWord).2
theorem fe_X2_readWord_1 : ∀ r ∈ P_X2_readWord_1, fetch 25 r.1 = some r.2 := fun r hr => fe_X2_readWord r (List.mem_append_left _ hr)
theorem fe_X2_readWord_2 : ∀ r ∈ P_X2_readWord_2, fetch 25 r.1 = some r.2 := fun r hr => fe_X2_readWord r (List.mem_append_right _ (List.mem_append_left _ hr))
theorem fe_X2_readWord_3 : ∀ r ∈ P_X2_readWord_3, fetch 25 r.1 = some r.2 := fun r hr => fe_X2_readWord r (List.mem_append_right _ (List.mem_append_right _ (hr)))
theorem ckS_X2_isWord : chkS M_X2_isWord P_X2_isWord 0 M_X2_isWord.2.2.2.1.data.toList = true := by decide +kernel
theorem ckI_X2_isWord : P_X2_isWord.all (fun q => chkI M_X2_isWord q.1 q.2) = true := List.all_eq_true.mpr (chkS_ok _ 0 _ List.drop_zero ckS_X2_isWord).1
theorem fe_X2_isWord : ∀ r ∈ P_X2_isWord, fetch 26 r.1 = some r.2 := fe_of rfl (chkS_ok _ 0 _ List.drop_zero ckS_X2_isWord).2
theorem fe_X2_isWord_1 : ∀ r ∈ P_X2_isWord_1, fetch 26 r.1 = some r.2 := fun r hr => fe_X2_isWord r (List.mem_append_left _ hr)
theorem fe_X2_isWord_2 : ∀ r ∈ P_X2_isWord_2, fetch 26 r.1 = some r.2 := fun r hr => fe_X2_isWord r (List.mem_append_right _ (List.mem_append_left _ hr))
theorem fe_X2_isWord_3 : ∀ r ∈ P_X2_isWord_3, fetch 26 r.1 = some r.2 := fun r hr => fe_X2_isWord r (List.mem_append_right _ (List.mem_append_right _ (hr)))
theorem ckS_X3_init : chkS M_X3_init P_X3_init 0 M_X3_init.2.2.2.1.data.toList = true := by decide +kernel
theorem ckI_X3_init : P_X3_init.all (fun q => chkI M_X3_init q.1 q.2) = true := List.all_eq_true.mpr (chkS_ok _ 0 _ List.drop_zero ckS_X3_init).1
theorem fe_X3_init : ∀ r ∈ P_X3_init, fetch 27 r.1 = some r.2 := fe_of rfl (chkS_ok _ 0 _ List.drop_zero ckS_X3_init).2
theorem fe_X3_init_1 : ∀ r ∈ P_X3_init_1, fetch 27 r.1 = some r.2 := fun r hr => fe_X3_init r (List.mem_append_left _ hr)
theorem fe_X3_init_2 : ∀ r ∈ P_X3_init_2, fetch 27 r.1 = some r.2 := fun r hr => fe_X3_init r (List.mem_append_right _ (hr))
theorem ckS_X3_begin : chkS M_X3_begin P_X3_begin 0 M_X3_begin.2.2.2.1.data.toList = true := by decide +kernel
theorem ckI_X3_begin : P_X3_begin.all (fun q => chkI M_X3_begin q.1 q.2) = true := List.all_eq_true.mpr (chkS_ok _ 0 _ List.drop_zero ckS_X3_begin).1
theorem fe_X3_begin : ∀ r ∈ P_X3_begin, fetch 28 r.1 = some r.2 := fe_of rfl (chkS_ok _ 0 _ List.drop_zero ckS_X3_begin).2
theorem fe_X3_begin_1 : ∀ r ∈ P_X3_begin_1, fetch 28 r.1 = some r.2 := fun r hr => fe_X3_begin r (List.mem_append_left _ hr)
theorem fe_X3_begin_2 : ∀ r ∈ P_X3_begin_2, fetch 28 r.1 = some r.2 := fun r hr => fe_X3_begin r (List.mem_append_right _ (hr))
theorem ckS_X3_become : chkS M_X3_become P_X3_become 0 M_X3_become.2.2.2.1.data.toList = true := by decide +kernel
theorem ckI_X3_become : P_X3_become.all (fun q => chkI M_X3_become q.1 q.2) = true := List.all_eq_true.mpr (chkS_ok _ 0 _ List.drop_zero ckS_X3_become).1
theorem fe_X3_become : ∀ r ∈ P_X3_become, fetch 29 r.1 = some r.2 := fe_of rfl (chkS_ok _ 0 _ List.drop_zero ckS_X3_become).2
theorem fe_X3_become_1 : ∀ r ∈ P_X3_become_1, fetch 29 r.1 = some r.2 := fun r hr => fe_X3_become r (List.mem_append_left _ hr)
theorem fe_X3_become_2 : ∀ r ∈ P_X3_become_2, fetch 29 r.1 = some r.2 := fun r hr => fe_X3_become r (List.mem_append_right _ (hr))
theorem ckS_X3_make : chkS M_X3_make P_X3_make 0 M_X3_make.2.2.2.1.data.toList = true := by decide +kernel
theorem ckI_X3_make : P_X3_make.all (fun q => chkI M_X3_make q.1 q.2) = true := List.all_eq_true.mpr (chkS_ok _ 0 _ List.drop_zero ckS_X3_make).1
theorem fe_X3_make : ∀ r ∈ P_X3_make, fetch 30 r.1 = some r.2 := fe_of rfl (chkS_ok _ 0 _ List.drop_zero ckS_X3_make).2
theorem fe_X3_make_1 : ∀ r ∈ P_X3_make_1, fetch 30 r.1 = some r.2 := fun r hr => fe_X3_make r (List.mem_append_left _ hr)
theorem fe_X3_make_2 : ∀ r ∈ P_X3_make_2, fetch 30 r.1 = some r.2 := fun r hr => fe_X3_make r (List.mem_append_right _ (hr))
theorem ckS_X3_relax : chkS M_X3_relax P_X3_relax 0 M_X3_relax.2.2.2.1.data.toList = true := by decide +kernel
theorem ckI_X3_relax : P_X3_relax.all (fun q => chkI M_X3_relax q.1 q.2) = true := List.all_eq_true.mpr (chkS_ok _ 0 _ List.drop_zero ckS_X3_relax).1
theorem fe_X3_relax : ∀ r ∈ P_X3_relax, fetch 31 r.1 = some r.2 := fe_of rfl (chkS_ok _ 0 _ List.drop_zero ckS_X3_relax).2
theorem ckS_X3_draw : chkS M_X3_draw P_X3_draw 0 M_X3_draw.2.2.2.1.data.toList = true := by decide +kernel
theorem ckI_X3_draw : P_X3_draw.all (fun q => chkI M_X3_draw q.1 q.2) = true := List.all_eq_true.mpr (chkS_ok _ 0 _ List.drop_zero ckS_X3_draw).1
theorem fe_X3_draw : ∀ r ∈ P_X3_draw, fetch 32 r.1 = some r.2 := fe_of rfl (chkS_ok _ 0 _ List.drop_zero ckS_X3_draw).2
theorem fe_X3_draw_1 : ∀ r ∈ P_X3_draw_1, fetch 32 r.1 = some r.2 := fun r hr => fe_X3_draw r (List.mem_append_left _ hr)
theorem fe_X3_draw_2 : ∀ r ∈ P_X3_draw_2, fetch 32 r.1 = some r.2 := fun r hr => fe_X3_draw r (List.mem_append_right _ (List.mem_append_left _ hr))
theorem fe_X3_draw_3 : ∀ r ∈ P_X3_draw_3, fetch 32 r.1 = some r.2 := fun r hr => fe_X3_draw r (List.mem_append_right _ (List.mem_append_right _ (List.mem_append_left _ hr)))
theorem fe_X3_draw_4 : ∀ r ∈ P_X3_draw_4, fetch 32 r.1 = some r.2 := fun r hr => fe_X3_draw r (List.mem_append_right _ (List.mem_append_right _ (List.mem_append_right _ (List.mem_append_left _ hr))))
theorem fe_X3_draw_5 : ∀ r ∈ P_X3_draw_5, fetch 32 r.1 = some r.2 := fun r hr => fe_X3_draw r (List.mem_append_right _ (List.mem_append_right _ (List.mem_append_right _ (List.mem_append_right _ (hr)))))
theorem ckS_X3_lengthen : chkS M_X3_lengthen P_X3_lengthen 0 M_X3_lengthen.2.2.2.1.data.toList = true := by decide +kernel
theorem ckI_X3_lengthen : P_X3_lengthen.all (fun q => chkI M_X3_lengthen q.1 q.2) = true := List.all_eq_true.mpr (chkS_ok _ 0 _ List.drop_zero ckS_X3_lengthen).1
theorem fe_X3_lengthen : ∀ r ∈ P_X3_lengthen, fetch 33 r.1 = some r.2 := fe_of rfl (chkS_ok _ 0 _ List.drop_zero ckS_X3_lengthen).2
theorem fe_X3_lengthen_1 : ∀ r ∈ P_X3_lengthen_1, fetch 33 r.1 = some r.2 := fun r hr => fe_X3_lengthen r (List.mem_append_left _ hr)
theorem fe_X3_lengthen_2 : ∀ r ∈ P_X3_lengthen_2, fetch 33 r.1 = some r.2 := fun r hr => fe_X3_lengthen r (List.mem_append_right _ (hr))
theorem ckS_X3_bounce : chkS M_X3_bounce P_X3_bounce 0 M_X3_bounce.2.2.2.1.data.toList = true := by decide +kernel
theorem ckI_X3_bounce : P_X3_bounce.all (fun q => chkI M_X3_bounce q.1 q.2) = true := List.all_eq_true.mpr (chkS_ok _ 0 _ List.drop_zero ckS_X3_bounce).1
theorem fe_X3_bounce : ∀ r ∈ P_X3_bounce, fetch 34 r.1 = some r.2 := fe_of rfl (chkS_ok _ 0 _ List.drop_zero ckS_X3_bounce).2
theorem fe_X3_bounce_1 : ∀ r ∈ P_X3_bounce_1, fetch 34 r.1 = some r.2 := fun r hr => fe_X3_bounce r (List.mem_append_left _ hr)
theorem fe_X3_bounce_2 : ∀ r ∈ P_X3_bounce_2, fetch 34 r.1 = some r.2 := fun r hr => fe_X3_bounce r (List.mem_append_right _ (List.mem_append_left _ hr))
theorem fe_X3_bounce_3 : ∀ r ∈ P_X3_bounce_3, fetch 34 r.1 = some r.2 := fun r hr => fe_X3_bounce r (List.mem_append_right _ (List.mem_append_right _ (hr)))
theorem ckS_X3_fold : chkS M_X3_fold P_X3_fold 0 M_X3_fold.2.2.2.1.data.toList = true := by decide +kernel
theorem ckI_X3_fold : P_X3_fold.all (fun q => chkI M_X3_fold q.1 q.2) = true := List.all_eq_true.mpr (chkS_ok _ 0 _ List.drop_zero ckS_X3_fold).1
theorem fe_X3_fold : ∀ r ∈ P_X3_fold, fetch 35 r.1 = some r.2 := fe_of rfl (chkS_ok _ 0 _ List.drop_zero ckS_X3_fold).2
theorem fe_X3_fold_1 : ∀ r ∈ P_X3_fold_1, fetch 35 r.1 = some r.2 := fun r hr => fe_X3_fold r (List.mem_append_left _ hr)
theorem fe_X3_fold_2 : ∀ r ∈ P_X3_fold_2, fetch 35 r.1 = some r.2 := fun r hr => fe_X3_fold r (List.mem_append_right _ (hr))
theorem ckS_X3_foldRow : chkS M_X3_foldRow P_X3_foldRow 0 M_X3_foldRow.2.2.2.1.data.toList = true := by decide +kernel
theorem ckI_X3_foldRow : P_X3_foldRow.all (fun q => chkI M_X3_foldRow q.1 q.2) = true := List.all_eq_true.mpr (chkS_ok _ 0 _ List.drop_zero ckS_X3_foldRow).1
theorem fe_X3_foldRow : ∀ r ∈ P_X3_foldRow, fetch 36 r.1 = some r.2 := fe_of rfl (chkS_ok _ 0 _ List.drop_zero ckS_X3_foldRow).2
theorem fe_X3_foldRow_1 : ∀ r ∈ P_X3_foldRow_1, fetch 36 r.1 = some r.2 := fun r hr => fe_X3_foldRow r (List.mem_append_left _ hr)
theorem fe_X3_foldRow_2 : ∀ r ∈ P_X3_foldRow_2, fetch 36 r.1 = some r.2 := fun r hr => fe_X3_foldRow r (List.mem_append_right _ (hr))
theorem ckS_X3_powder : chkS M_X3_powder P_X3_powder 0 M_X3_powder.2.2.2.1.data.toList = true := by decide +kernel
theorem ckI_X3_powder : P_X3_powder.all (fun q => chkI M_X3_powder q.1 q.2) = true := List.all_eq_true.mpr (chkS_ok _ 0 _ List.drop_zero ckS_X3_powder).1
theorem fe_X3_powder : ∀ r ∈ P_X3_powder, fetch 37 r.1 = some r.2 := fe_of rfl (chkS_ok _ 0 _ List.drop_zero ckS_X3_powder).2
theorem ckS_X3_cutEnd : chkS M_X3_cutEnd P_X3_cutEnd 0 M_X3_cutEnd.2.2.2.1.data.toList = true := by decide +kernel
theorem ckI_X3_cutEnd : P_X3_cutEnd.all (fun q => chkI M_X3_cutEnd q.1 q.2) = true := List.all_eq_true.mpr (chkS_ok _ 0 _ List.drop_zero ckS_X3_cutEnd).1
theorem fe_X3_cutEnd : ∀ r ∈ P_X3_cutEnd, fetch 38 r.1 = some r.2 := fe_of rfl (chkS_ok _ 0 _ List.drop_zero ckS_X3_cutEnd).2
theorem fe_X3_cutEnd_1 : ∀ r ∈ P_X3_cutEnd_1, fetch 38 r.1 = some r.2 := fun r hr => fe_X3_cutEnd r (List.mem_append_left _ hr)
theorem fe_X3_cutEnd_2 : ∀ r ∈ P_X3_cutEnd_2, fetch 38 r.1 = some r.2 := fun r hr => fe_X3_cutEnd r (List.mem_append_right _ (hr))
theorem ckS_X3_thick : chkS M_X3_thick P_X3_thick 0 M_X3_thick.2.2.2.1.data.toList = true := by decide +kernel
theorem ckI_X3_thick : P_X3_thick.all (fun q => chkI M_X3_thick q.1 q.2) = true := List.all_eq_true.mpr (chkS_ok _ 0 _ List.drop_zero ckS_X3_thick).1
theorem fe_X3_thick : ∀ r ∈ P_X3_thick, fetch 39 r.1 = some r.2 := fe_of rfl (chkS_ok _ 0 _ List.drop_zero ckS_X3_thick).2
theorem ckS_X3_thinnest : chkS M_X3_thinnest P_X3_thinnest 0 M_X3_thinnest.2.2.2.1.data.toList = true := by decide +kernel
theorem ckI_X3_thinnest : P_X3_thinnest.all (fun q => chkI M_X3_thinnest q.1 q.2) = true := List.all_eq_true.mpr (chkS_ok _ 0 _ List.drop_zero ckS_X3_thinnest).1
theorem fe_X3_thinnest : ∀ r ∈ P_X3_thinnest, fetch 40 r.1 = some r.2 := fe_of rfl (chkS_ok _ 0 _ List.drop_zero ckS_X3_thinnest).2
theorem ckS_X3_thickest : chkS M_X3_thickest P_X3_thickest 0 M_X3_thickest.2.2.2.1.data.toList = true := by decide +kernel
theorem ckI_X3_thickest : P_X3_thickest.all (fun q => chkI M_X3_thickest q.1 q.2) = true := List.all_eq_true.mpr (chkS_ok _ 0 _ List.drop_zero ckS_X3_thickest).1
theorem fe_X3_thickest : ∀ r ∈ P_X3_thickest, fetch 41 r.1 = some r.2 := fe_of rfl (chkS_ok _ 0 _ List.drop_zero ckS_X3_thickest).2
theorem ckS_X3_spread : chkS M_X3_spread P_X3_spread 0 M_X3_spread.2.2.2.1.data.toList = true := by decide +kernel
theorem ckI_X3_spread : P_X3_spread.all (fun q => chkI M_X3_spread q.1 q.2) = true := List.all_eq_true.mpr (chkS_ok _ 0 _ List.drop_zero ckS_X3_spread).1
theorem fe_X3_spread : ∀ r ∈ P_X3_spread, fetch 42 r.1 = some r.2 := fe_of rfl (chkS_ok _ 0 _ List.drop_zero ckS_X3_spread).2
theorem ckS_X3_isMoreEvenThan : chkS M_X3_isMoreEvenThan P_X3_isMoreEvenThan 0 M_X3_isMoreEvenThan.2.2.2.1.data.toList = true := by decide +kernel
theorem ckI_X3_isMoreEvenThan : P_X3_isMoreEvenThan.all (fun q => chkI M_X3_isMoreEvenThan q.1 q.2) = true := List.all_eq_true.mpr (chkS_ok _ 0 _ List.drop_zero ckS_X3_isMoreEvenThan).1
theorem fe_X3_isMoreEvenThan : ∀ r ∈ P_X3_isMoreEvenThan, fetch 43 r.1 = some r.2 := fe_of rfl (chkS_ok _ 0 _ List.drop_zero ckS_X3_isMoreEvenThan).2
theorem fe_X3_isMoreEvenThan_1 : ∀ r ∈ P_X3_isMoreEvenThan_1, fetch 43 r.1 = some r.2 := fun r hr => fe_X3_isMoreEvenThan r (List.mem_append_left _ hr)
theorem fe_X3_isMoreEvenThan_2 : ∀ r ∈ P_X3_isMoreEvenThan_2, fetch 43 r.1 = some r.2 := fun r hr => fe_X3_isMoreEvenThan r (List.mem_append_right _ (hr))
theorem ckS_X3_allLength : chkS M_X3_allLength P_X3_allLength 0 M_X3_allLength.2.2.2.1.data.toList = true := by decide +kernel
theorem ckI_X3_allLength : P_X3_allLength.all (fun q => chkI M_X3_allLength q.1 q.2) = true := List.all_eq_true.mpr (chkS_ok _ 0 _ List.drop_zero ckS_X3_allLength).1
theorem fe_X3_allLength : ∀ r ∈ P_X3_allLength, fetch 44 r.1 = some r.2 := fe_of rfl (chkS_ok _ 0 _ List.drop_zero ckS_X3_allLength).2
theorem ckS_X3_tenths : chkS M_X3_tenths P_X3_tenths 0 M_X3_tenths.2.2.2.1.data.toList = true := by decide +kernel
theorem ckI_X3_tenths : P_X3_tenths.all (fun q => chkI M_X3_tenths q.1 q.2) = true := List.all_eq_true.mpr (chkS_ok _ 0 _ List.drop_zero ckS_X3_tenths).1
theorem fe_X3_tenths : ∀ r ∈ P_X3_tenths, fetch 45 r.1 = some r.2 := fe_of rfl (chkS_ok _ 0 _ List.drop_zero ckS_X3_tenths).2
theorem ckS_X3_goodParts : chkS M_X3_goodParts P_X3_goodParts 0 M_X3_goodParts.2.2.2.1.data.toList = true := by decide +kernel
theorem ckI_X3_goodParts : P_X3_goodParts.all (fun q => chkI M_X3_goodParts q.1 q.2) = true := List.all_eq_true.mpr (chkS_ok _ 0 _ List.drop_zero ckS_X3_goodParts).1
theorem fe_X3_goodParts : ∀ r ∈ P_X3_goodParts, fetch 46 r.1 = some r.2 := fe_of rfl (chkS_ok _ 0 _ List.drop_zero ckS_X3_goodParts).2
theorem ckS_X3_cooked : chkS M_X3_cooked P_X3_cooked 0 M_X3_cooked.2.2.2.1.data.toList = true := by decide +kernel
theorem ckI_X3_cooked : P_X3_cooked.all (fun q => chkI M_X3_cooked q.1 q.2) = true := List.all_eq_true.mpr (chkS_ok _ 0 _ List.drop_zero ckS_X3_cooked).1
theorem fe_X3_cooked : ∀ r ∈ P_X3_cooked, fetch 47 r.1 = some r.2 := fe_of rfl (chkS_ok _ 0 _ List.drop_zero ckS_X3_cooked).2
theorem fe_X3_cooked_1 : ∀ r ∈ P_X3_cooked_1, fetch 47 r.1 = some r.2 := fun r hr => fe_X3_cooked r (List.mem_append_left _ hr)
theorem fe_X3_cooked_2 : ∀ r ∈ P_X3_cooked_2, fetch 47 r.1 = some r.2 := fun r hr => fe_X3_cooked r (List.mem_append_right _ (hr))
theorem ckS_X3_firstOff : chkS M_X3_firstOff P_X3_firstOff 0 M_X3_firstOff.2.2.2.1.data.toList = true := by decide +kernel
theorem ckI_X3_firstOff : P_X3_firstOff.all (fun q => chkI M_X3_firstOff q.1 q.2) = true := List.all_eq_true.mpr (chkS_ok _ 0 _ List.drop_zero ckS_X3_firstOff).1
theorem fe_X3_firstOff : ∀ r ∈ P_X3_firstOff, fetch 48 r.1 = some r.2 := fe_of rfl (chkS_ok _ 0 _ List.drop_zero ckS_X3_firstOff).2
theorem fe_X3_firstOff_1 : ∀ r ∈ P_X3_firstOff_1, fetch 48 r.1 = some r.2 := fun r hr => fe_X3_firstOff r (List.mem_append_left _ hr)
theorem fe_X3_firstOff_2 : ∀ r ∈ P_X3_firstOff_2, fetch 48 r.1 = some r.2 := fun r hr => fe_X3_firstOff r (List.mem_append_right _ (hr))
theorem ckS_X3_isAsTold : chkS M_X3_isAsTold P_X3_isAsTold 0 M_X3_isAsTold.2.2.2.1.data.toList = true := by decide +kernel
theorem ckI_X3_isAsTold : P_X3_isAsTold.all (fun q => chkI M_X3_isAsTold q.1 q.2) = true := List.all_eq_true.mpr (chkS_ok _ 0 _ List.drop_zero ckS_X3_isAsTold).1
theorem fe_X3_isAsTold : ∀ r ∈ P_X3_isAsTold, fetch 49 r.1 = some r.2 := fe_of rfl (chkS_ok _ 0 _ List.drop_zero ckS_X3_isAsTold).2
theorem ckS_X4_init : chkS M_X4_init P_X4_init 0 M_X4_init.2.2.2.1.data.toList = true := by decide +kernel
theorem ckI_X4_init : P_X4_init.all (fun q => chkI M_X4_init q.1 q.2) = true := List.all_eq_true.mpr (chkS_ok _ 0 _ List.drop_zero ckS_X4_init).1
theorem fe_X4_init : ∀ r ∈ P_X4_init, fetch 50 r.1 = some r.2 := fe_of rfl (chkS_ok _ 0 _ List.drop_zero ckS_X4_init).2
theorem ckS_X4_become : chkS M_X4_become P_X4_become 0 M_X4_become.2.2.2.1.data.toList = true := by decide +kernel
theorem ckI_X4_become : P_X4_become.all (fun q => chkI M_X4_become q.1 q.2) = true := List.all_eq_true.mpr (chkS_ok _ 0 _ List.drop_zero ckS_X4_become).1
theorem fe_X4_become : ∀ r ∈ P_X4_become, fetch 51 r.1 = some r.2 := fe_of rfl (chkS_ok _ 0 _ List.drop_zero ckS_X4_become).2
theorem ckS_X4_has : chkS M_X4_has P_X4_has 0 M_X4_has.2.2.2.1.data.toList = true := by decide +kernel
theorem ckI_X4_has : P_X4_has.all (fun q => chkI M_X4_has q.1 q.2) = true := List.all_eq_true.mpr (chkS_ok _ 0 _ List.drop_zero ckS_X4_has).1
theorem fe_X4_has : ∀ r ∈ P_X4_has, fetch 52 r.1 = some r.2 := fe_of rfl (chkS_ok _ 0 _ List.drop_zero ckS_X4_has).2
theorem ckS_X4_put : chkS M_X4_put P_X4_put 0 M_X4_put.2.2.2.1.data.toList = true := by decide +kernel
theorem ckI_X4_put : P_X4_put.all (fun q => chkI M_X4_put q.1 q.2) = true := List.all_eq_true.mpr (chkS_ok _ 0 _ List.drop_zero ckS_X4_put).1
theorem fe_X4_put : ∀ r ∈ P_X4_put, fetch 53 r.1 = some r.2 := fe_of rfl (chkS_ok _ 0 _ List.drop_zero ckS_X4_put).2
theorem ckS_X5_init : chkS M_X5_init P_X5_init 0 M_X5_init.2.2.2.1.data.toList = true := by decide +kernel
theorem ckI_X5_init : P_X5_init.all (fun q => chkI M_X5_init q.1 q.2) = true := List.all_eq_true.mpr (chkS_ok _ 0 _ List.drop_zero ckS_X5_init).1
theorem fe_X5_init : ∀ r ∈ P_X5_init, fetch 54 r.1 = some r.2 := fe_of rfl (chkS_ok _ 0 _ List.drop_zero ckS_X5_init).2
theorem ckS_X5_become : chkS M_X5_become P_X5_become 0 M_X5_become.2.2.2.1.data.toList = true := by decide +kernel
theorem ckI_X5_become : P_X5_become.all (fun q => chkI M_X5_become q.1 q.2) = true := List.all_eq_true.mpr (chkS_ok _ 0 _ List.drop_zero ckS_X5_become).1
theorem fe_X5_become : ∀ r ∈ P_X5_become, fetch 55 r.1 = some r.2 := fe_of rfl (chkS_ok _ 0 _ List.drop_zero ckS_X5_become).2
theorem ckS_X5_takes : chkS M_X5_takes P_X5_takes 0 M_X5_takes.2.2.2.1.data.toList = true := by decide +kernel
theorem ckI_X5_takes : P_X5_takes.all (fun q => chkI M_X5_takes q.1 q.2) = true := List.all_eq_true.mpr (chkS_ok _ 0 _ List.drop_zero ckS_X5_takes).1
theorem fe_X5_takes : ∀ r ∈ P_X5_takes, fetch 56 r.1 = some r.2 := fe_of rfl (chkS_ok _ 0 _ List.drop_zero ckS_X5_takes).2
theorem ckS_X5_isA : chkS M_X5_isA P_X5_isA 0 M_X5_isA.2.2.2.1.data.toList = true := by decide +kernel
theorem ckI_X5_isA : P_X5_isA.all (fun q => chkI M_X5_isA q.1 q.2) = true := List.all_eq_true.mpr (chkS_ok _ 0 _ List.drop_zero ckS_X5_isA).1
theorem fe_X5_isA : ∀ r ∈ P_X5_isA, fetch 57 r.1 = some r.2 := fe_of rfl (chkS_ok _ 0 _ List.drop_zero ckS_X5_isA).2
theorem ckS_X6_init : chkS M_X6_init P_X6_init 0 M_X6_init.2.2.2.1.data.toList = true := by decide +kernel
theorem ckI_X6_init : P_X6_init.all (fun q => chkI M_X6_init q.1 q.2) = true := List.all_eq_true.mpr (chkS_ok _ 0 _ List.drop_zero ckS_X6_init).1
theorem fe_X6_init : ∀ r ∈ P_X6_init, fetch 58 r.1 = some r.2 := fe_of rfl (chkS_ok _ 0 _ List.drop_zero ckS_X6_init).2
theorem ckS_X6_clear : chkS M_X6_clear P_X6_clear 0 M_X6_clear.2.2.2.1.data.toList = true := by decide +kernel
theorem ckI_X6_clear : P_X6_clear.all (fun q => chkI M_X6_clear q.1 q.2) = true := List.all_eq_true.mpr (chkS_ok _ 0 _ List.drop_zero ckS_X6_clear).1
theorem fe_X6_clear : ∀ r ∈ P_X6_clear, fetch 59 r.1 = some r.2 := fe_of rfl (chkS_ok _ 0 _ List.drop_zero ckS_X6_clear).2
theorem ckS_X6_nameCode : chkS M_X6_nameCode P_X6_nameCode 0 M_X6_nameCode.2.2.2.1.data.toList = true := by decide +kernel
theorem ckI_X6_nameCode : P_X6_nameCode.all (fun q => chkI M_X6_nameCode q.1 q.2) = true := List.all_eq_true.mpr (chkS_ok _ 0 _ List.drop_zero ckS_X6_nameCode).1
theorem fe_X6_nameCode : ∀ r ∈ P_X6_nameCode, fetch 60 r.1 = some r.2 := fe_of rfl (chkS_ok _ 0 _ List.drop_zero ckS_X6_nameCode).2
theorem ckS_X6_add : chkS M_X6_add P_X6_add 0 M_X6_add.2.2.2.1.data.toList = true := by decide +kernel
theorem ckI_X6_add : P_X6_add.all (fun q => chkI M_X6_add q.1 q.2) = true := List.all_eq_true.mpr (chkS_ok _ 0 _ List.drop_zero ckS_X6_add).1
theorem fe_X6_add : ∀ r ∈ P_X6_add, fetch 61 r.1 = some r.2 := fe_of rfl (chkS_ok _ 0 _ List.drop_zero ckS_X6_add).2
theorem ckS_X6_endSection : chkS M_X6_endSection P_X6_endSection 0 M_X6_endSection.2.2.2.1.data.toList = true := by decide +kernel
theorem ckI_X6_endSection : P_X6_endSection.all (fun q => chkI M_X6_endSection q.1 q.2) = true := List.all_eq_true.mpr (chkS_ok _ 0 _ List.drop_zero ckS_X6_endSection).1
theorem fe_X6_endSection : ∀ r ∈ P_X6_endSection, fetch 62 r.1 = some r.2 := fe_of rfl (chkS_ok _ 0 _ List.drop_zero ckS_X6_endSection).2
theorem ckS_X6_value : chkS M_X6_value P_X6_value 0 M_X6_value.2.2.2.1.data.toList = true := by decide +kernel
theorem ckI_X6_value : P_X6_value.all (fun q => chkI M_X6_value q.1 q.2) = true := List.all_eq_true.mpr (chkS_ok _ 0 _ List.drop_zero ckS_X6_value).1
theorem fe_X6_value : ∀ r ∈ P_X6_value, fetch 63 r.1 = some r.2 := fe_of rfl (chkS_ok _ 0 _ List.drop_zero ckS_X6_value).2
theorem fe_X6_value_1 : ∀ r ∈ P_X6_value_1, fetch 63 r.1 = some r.2 := fun r hr => fe_X6_value r (List.mem_append_left _ hr)
theorem fe_X6_value_2 : ∀ r ∈ P_X6_value_2, fetch 63 r.1 = some r.2 := fun r hr => fe_X6_value r (List.mem_append_right _ (List.mem_append_left _ hr))
theorem fe_X6_value_3 : ∀ r ∈ P_X6_value_3, fetch 63 r.1 = some r.2 := fun r hr => fe_X6_value r (List.mem_append_right _ (List.mem_append_right _ (List.mem_append_left _ hr)))
theorem fe_X6_value_4 : ∀ r ∈ P_X6_value_4, fetch 63 r.1 = some r.2 := fun r hr => fe_X6_value r (List.mem_append_right _ (List.mem_append_right _ (List.mem_append_right _ (List.mem_append_left _ hr))))
theorem fe_X6_value_5 : ∀ r ∈ P_X6_value_5, fetch 63 r.1 = some r.2 := fun r hr => fe_X6_value r (List.mem_append_right _ (List.mem_append_right _ (List.mem_append_right _ (List.mem_append_right _ (hr)))))
theorem ckS_X6_named : chkS M_X6_named P_X6_named 0 M_X6_named.2.2.2.1.data.toList = true := by decide +kernel
theorem ckI_X6_named : P_X6_named.all (fun q => chkI M_X6_named q.1 q.2) = true := List.all_eq_true.mpr (chkS_ok _ 0 _ List.drop_zero ckS_X6_named).1
theorem fe_X6_named : ∀ r ∈ P_X6_named, fetch 64 r.1 = some r.2 := fe_of rfl (chkS_ok _ 0 _ List.drop_zero ckS_X6_named).2
theorem ckS_X6_joined : chkS M_X6_joined P_X6_joined 0 M_X6_joined.2.2.2.1.data.toList = true := by decide +kernel
theorem ckI_X6_joined : P_X6_joined.all (fun q => chkI M_X6_joined q.1 q.2) = true := List.all_eq_true.mpr (chkS_ok _ 0 _ List.drop_zero ckS_X6_joined).1
theorem fe_X6_joined : ∀ r ∈ P_X6_joined, fetch 65 r.1 = some r.2 := fe_of rfl (chkS_ok _ 0 _ List.drop_zero ckS_X6_joined).2
theorem fe_X6_joined_1 : ∀ r ∈ P_X6_joined_1, fetch 65 r.1 = some r.2 := fun r hr => fe_X6_joined r (List.mem_append_left _ hr)
theorem fe_X6_joined_2 : ∀ r ∈ P_X6_joined_2, fetch 65 r.1 = some r.2 := fun r hr => fe_X6_joined r (List.mem_append_right _ (hr))
theorem ckS_X7_init : chkS M_X7_init P_X7_init 0 M_X7_init.2.2.2.1.data.toList = true := by decide +kernel
theorem ckI_X7_init : P_X7_init.all (fun q => chkI M_X7_init q.1 q.2) = true := List.all_eq_true.mpr (chkS_ok _ 0 _ List.drop_zero ckS_X7_init).1
theorem fe_X7_init : ∀ r ∈ P_X7_init, fetch 66 r.1 = some r.2 := fe_of rfl (chkS_ok _ 0 _ List.drop_zero ckS_X7_init).2
theorem fe_X7_init_1 : ∀ r ∈ P_X7_init_1, fetch 66 r.1 = some r.2 := fun r hr => fe_X7_init r (List.mem_append_left _ hr)
theorem fe_X7_init_2 : ∀ r ∈ P_X7_init_2, fetch 66 r.1 = some r.2 := fun r hr => fe_X7_init r (List.mem_append_right _ (List.mem_append_left _ hr))
theorem fe_X7_init_3 : ∀ r ∈ P_X7_init_3, fetch 66 r.1 = some r.2 := fun r hr => fe_X7_init r (List.mem_append_right _ (List.mem_append_right _ (List.mem_append_left _ hr)))
theorem fe_X7_init_4 : ∀ r ∈ P_X7_init_4, fetch 66 r.1 = some r.2 := fun r hr => fe_X7_init r (List.mem_append_right _ (List.mem_append_right _ (List.mem_append_right _ (List.mem_append_left _ hr))))
theorem fe_X7_init_5 : ∀ r ∈ P_X7_init_5, fetch 66 r.1 = some r.2 := fun r hr => fe_X7_init r (List.mem_append_right _ (List.mem_append_right _ (List.mem_append_right _ (List.mem_append_right _ (List.mem_append_left _ hr)))))
theorem fe_X7_init_6 : ∀ r ∈ P_X7_init_6, fetch 66 r.1 = some r.2 := fun r hr => fe_X7_init r (List.mem_append_right _ (List.mem_append_right _ (List.mem_append_right _ (List.mem_append_right _ (List.mem_append_right _ (hr))))))
theorem ckS_X7_roll : chkS M_X7_roll P_X7_roll 0 M_X7_roll.2.2.2.1.data.toList = true := by decide +kernel
theorem ckI_X7_roll : P_X7_roll.all (fun q => chkI M_X7_roll q.1 q.2) = true := List.all_eq_true.mpr (chkS_ok _ 0 _ List.drop_zero ckS_X7_roll).1
theorem fe_X7_roll : ∀ r ∈ P_X7_roll, fetch 67 r.1 = some r.2 := fe_of rfl (chkS_ok _ 0 _ List.drop_zero ckS_X7_roll).2
theorem fe_X7_roll_1 : ∀ r ∈ P_X7_roll_1, fetch 67 r.1 = some r.2 := fun r hr => fe_X7_roll r (List.mem_append_left _ hr)
theorem fe_X7_roll_2 : ∀ r ∈ P_X7_roll_2, fetch 67 r.1 = some r.2 := fun r hr => fe_X7_roll r (List.mem_append_right _ (hr))
theorem ckS_X7_set : chkS M_X7_set P_X7_set 0 M_X7_set.2.2.2.1.data.toList = true := by decide +kernel
theorem ckI_X7_set : P_X7_set.all (fun q => chkI M_X7_set q.1 q.2) = true := List.all_eq_true.mpr (chkS_ok _ 0 _ List.drop_zero ckS_X7_set).1
theorem fe_X7_set : ∀ r ∈ P_X7_set, fetch 68 r.1 = some r.2 := fe_of rfl (chkS_ok _ 0 _ List.drop_zero ckS_X7_set).2
theorem ckS_X7_count : chkS M_X7_count P_X7_count 0 M_X7_count.2.2.2.1.data.toList = true := by decide +kernel
theorem ckI_X7_count : P_X7_count.all (fun q => chkI M_X7_count q.1 q.2) = true := List.all_eq_true.mpr (chkS_ok _ 0 _ List.drop_zero ckS_X7_count).1
theorem fe_X7_count : ∀ r ∈ P_X7_count, fetch 69 r.1 = some r.2 := fe_of rfl (chkS_ok _ 0 _ List.drop_zero ckS_X7_count).2
theorem ckS_X7_feed : chkS M_X7_feed P_X7_feed 0 M_X7_feed.2.2.2.1.data.toList = true := by decide +kernel
theorem ckI_X7_feed : P_X7_feed.all (fun q => chkI M_X7_feed q.1 q.2) = true := List.all_eq_true.mpr (chkS_ok _ 0 _ List.drop_zero ckS_X7_feed).1
theorem fe_X7_feed : ∀ r ∈ P_X7_feed, fetch 70 r.1 = some r.2 := fe_of rfl (chkS_ok _ 0 _ List.drop_zero ckS_X7_feed).2
theorem fe_X7_feed_1 : ∀ r ∈ P_X7_feed_1, fetch 70 r.1 = some r.2 := fun r hr => fe_X7_feed r (List.mem_append_left _ hr)
theorem fe_X7_feed_2 : ∀ r ∈ P_X7_feed_2, fetch 70 r.1 = some r.2 := fun r hr => fe_X7_feed r (List.mem_append_right _ (hr))
theorem ckS_X7_text : chkS M_X7_text P_X7_text 0 M_X7_text.2.2.2.1.data.toList = true := by decide +kernel
theorem ckI_X7_text : P_X7_text.all (fun q => chkI M_X7_text q.1 q.2) = true := List.all_eq_true.mpr (chkS_ok _ 0 _ List.drop_zero ckS_X7_text).1
theorem fe_X7_text : ∀ r ∈ P_X7_text, fetch 71 r.1 = some r.2 := fe_of rfl (chkS_ok _ 0 _ List.drop_zero ckS_X7_text).2
theorem fe_X7_text_1 : ∀ r ∈ P_X7_text_1, fetch 71 r.1 = some r.2 := fun r hr => fe_X7_text r (List.mem_append_left _ hr)
theorem fe_X7_text_2 : ∀ r ∈ P_X7_text_2, fetch 71 r.1 = some r.2 := fun r hr => fe_X7_text r (List.mem_append_right _ (hr))
theorem ckS_X7_force : chkS M_X7_force P_X7_force 0 M_X7_force.2.2.2.1.data.toList = true := by decide +kernel
theorem ckI_X7_force : P_X7_force.all (fun q => chkI M_X7_force q.1 q.2) = true := List.all_eq_true.mpr (chkS_ok _ 0 _ List.drop_zero ckS_X7_force).1
theorem fe_X7_force : ∀ r ∈ P_X7_force, fetch 72 r.1 = some r.2 := fe_of rfl (chkS_ok _ 0 _ List.drop_zero ckS_X7_force).2
theorem ckS_X7_step : chkS M_X7_step P_X7_step 0 M_X7_step.2.2.2.1.data.toList = true := by decide +kernel
theorem ckI_X7_step : P_X7_step.all (fun q => chkI M_X7_step q.1 q.2) = true := List.all_eq_true.mpr (chkS_ok _ 0 _ List.drop_zero ckS_X7_step).1
theorem fe_X7_step : ∀ r ∈ P_X7_step, fetch 73 r.1 = some r.2 := fe_of rfl (chkS_ok _ 0 _ List.drop_zero ckS_X7_step).2
theorem fe_X7_step_1 : ∀ r ∈ P_X7_step_1, fetch 73 r.1 = some r.2 := fun r hr => fe_X7_step r (List.mem_append_left _ hr)
theorem fe_X7_step_2 : ∀ r ∈ P_X7_step_2, fetch 73 r.1 = some r.2 := fun r hr => fe_X7_step r (List.mem_append_right _ (hr))
theorem ckS_X7_forget : chkS M_X7_forget P_X7_forget 0 M_X7_forget.2.2.2.1.data.toList = true := by decide +kernel
theorem ckI_X7_forget : P_X7_forget.all (fun q => chkI M_X7_forget q.1 q.2) = true := List.all_eq_true.mpr (chkS_ok _ 0 _ List.drop_zero ckS_X7_forget).1
theorem fe_X7_forget : ∀ r ∈ P_X7_forget, fetch 74 r.1 = some r.2 := fe_of rfl (chkS_ok _ 0 _ List.drop_zero ckS_X7_forget).2
theorem ckS_X7_stepTold : chkS M_X7_stepTold P_X7_stepTold 0 M_X7_stepTold.2.2.2.1.data.toList = true := by decide +kernel
theorem ckI_X7_stepTold : P_X7_stepTold.all (fun q => chkI M_X7_stepTold q.1 q.2) = true := List.all_eq_true.mpr (chkS_ok _ 0 _ List.drop_zero ckS_X7_stepTold).1
theorem fe_X7_stepTold : ∀ r ∈ P_X7_stepTold, fetch 75 r.1 = some r.2 := fe_of rfl (chkS_ok _ 0 _ List.drop_zero ckS_X7_stepTold).2
theorem fe_X7_stepTold_1 : ∀ r ∈ P_X7_stepTold_1, fetch 75 r.1 = some r.2 := fun r hr => fe_X7_stepTold r (List.mem_append_left _ hr)
theorem fe_X7_stepTold_2 : ∀ r ∈ P_X7_stepTold_2, fetch 75 r.1 = some r.2 := fun r hr => fe_X7_stepTold r (List.mem_append_right _ (hr))
theorem ckS_X7_rope : chkS M_X7_rope P_X7_rope 0 M_X7_rope.2.2.2.1.data.toList = true := by decide +kernel
theorem ckI_X7_rope : P_X7_rope.all (fun q => chkI M_X7_rope q.1 q.2) = true := List.all_eq_true.mpr (chkS_ok _ 0 _ List.drop_zero ckS_X7_rope).1
theorem fe_X7_rope : ∀ r ∈ P_X7_rope, fetch 76 r.1 = some r.2 := fe_of rfl (chkS_ok _ 0 _ List.drop_zero ckS_X7_rope).2
theorem fe_X7_rope_1 : ∀ r ∈ P_X7_rope_1, fetch 76 r.1 = some r.2 := fun r hr => fe_X7_rope r (List.mem_append_left _ hr)
theorem fe_X7_rope_2 : ∀ r ∈ P_X7_rope_2, fetch 76 r.1 = some r.2 := fun r hr => fe_X7_rope r (List.mem_append_right _ (hr))
theorem ckS_X7_state : chkS M_X7_state P_X7_state 0 M_X7_state.2.2.2.1.data.toList = true := by decide +kernel
theorem ckI_X7_state : P_X7_state.all (fun q => chkI M_X7_state q.1 q.2) = true := List.all_eq_true.mpr (chkS_ok _ 0 _ List.drop_zero ckS_X7_state).1
theorem fe_X7_state : ∀ r ∈ P_X7_state, fetch 77 r.1 = some r.2 := fe_of rfl (chkS_ok _ 0 _ List.drop_zero ckS_X7_state).2
theorem fe_X7_state_1 : ∀ r ∈ P_X7_state_1, fetch 77 r.1 = some r.2 := fun r hr => fe_X7_state r (List.mem_append_left _ hr)
theorem fe_X7_state_2 : ∀ r ∈ P_X7_state_2, fetch 77 r.1 = some r.2 := fun r hr => fe_X7_state r (List.mem_append_right _ (List.mem_append_left _ hr))
theorem fe_X7_state_3 : ∀ r ∈ P_X7_state_3, fetch 77 r.1 = some r.2 := fun r hr => fe_X7_state r (List.mem_append_right _ (List.mem_append_right _ (hr)))
theorem ckS_X7_whole : chkS M_X7_whole P_X7_whole 0 M_X7_whole.2.2.2.1.data.toList = true := by decide +kernel
theorem ckI_X7_whole : P_X7_whole.all (fun q => chkI M_X7_whole q.1 q.2) = true := List.all_eq_true.mpr (chkS_ok _ 0 _ List.drop_zero ckS_X7_whole).1
theorem fe_X7_whole : ∀ r ∈ P_X7_whole, fetch 78 r.1 = some r.2 := fe_of rfl (chkS_ok _ 0 _ List.drop_zero ckS_X7_whole).2
theorem fe_X7_whole_1 : ∀ r ∈ P_X7_whole_1, fetch 78 r.1 = some r.2 := fun r hr => fe_X7_whole r (List.mem_append_left _ hr)
theorem fe_X7_whole_2 : ∀ r ∈ P_X7_whole_2, fetch 78 r.1 = some r.2 := fun r hr => fe_X7_whole r (List.mem_append_right _ (hr))
theorem ckS_X7_stop : chkS M_X7_stop P_X7_stop 0 M_X7_stop.2.2.2.1.data.toList = true := by decide +kernel
theorem ckI_X7_stop : P_X7_stop.all (fun q => chkI M_X7_stop q.1 q.2) = true := List.all_eq_true.mpr (chkS_ok _ 0 _ List.drop_zero ckS_X7_stop).1
theorem fe_X7_stop : ∀ r ∈ P_X7_stop, fetch 79 r.1 = some r.2 := fe_of rfl (chkS_ok _ 0 _ List.drop_zero ckS_X7_stop).2
theorem fe_X7_stop_1 : ∀ r ∈ P_X7_stop_1, fetch 79 r.1 = some r.2 := fun r hr => fe_X7_stop r (List.mem_append_left _ hr)
theorem fe_X7_stop_2 : ∀ r ∈ P_X7_stop_2, fetch 79 r.1 = some r.2 := fun r hr => fe_X7_stop r (List.mem_append_right _ (List.mem_append_left _ hr))
theorem fe_X7_stop_3 : ∀ r ∈ P_X7_stop_3, fetch 79 r.1 = some r.2 := fun r hr => fe_X7_stop r (List.mem_append_right _ (List.mem_append_right _ (hr)))
theorem ckS_X7_worst : chkS M_X7_worst P_X7_worst 0 M_X7_worst.2.2.2.1.data.toList = true := by decide +kernel
theorem ckI_X7_worst : P_X7_worst.all (fun q => chkI M_X7_worst q.1 q.2) = true := List.all_eq_true.mpr (chkS_ok _ 0 _ List.drop_zero ckS_X7_worst).1
theorem fe_X7_worst : ∀ r ∈ P_X7_worst, fetch 80 r.1 = some r.2 := fe_of rfl (chkS_ok _ 0 _ List.drop_zero ckS_X7_worst).2
theorem fe_X7_worst_1 : ∀ r ∈ P_X7_worst_1, fetch 80 r.1 = some r.2 := fun r hr => fe_X7_worst r (List.mem_append_left _ hr)
theorem fe_X7_worst_2 : ∀ r ∈ P_X7_worst_2, fetch 80 r.1 = some r.2 := fun r hr => fe_X7_worst r (List.mem_append_right _ (hr))
theorem ckS_X7_window : chkS M_X7_window P_X7_window 0 M_X7_window.2.2.2.1.data.toList = true := by decide +kernel
theorem ckI_X7_window : P_X7_window.all (fun q => chkI M_X7_window q.1 q.2) = true := List.all_eq_true.mpr (chkS_ok _ 0 _ List.drop_zero ckS_X7_window).1
theorem fe_X7_window : ∀ r ∈ P_X7_window, fetch 81 r.1 = some r.2 := fe_of rfl (chkS_ok _ 0 _ List.drop_zero ckS_X7_window).2
theorem fe_X7_window_1 : ∀ r ∈ P_X7_window_1, fetch 81 r.1 = some r.2 := fun r hr => fe_X7_window r (List.mem_append_left _ hr)
theorem fe_X7_window_2 : ∀ r ∈ P_X7_window_2, fetch 81 r.1 = some r.2 := fun r hr => fe_X7_window r (List.mem_append_right _ (hr))
theorem ckS_X7_pace : chkS M_X7_pace P_X7_pace 0 M_X7_pace.2.2.2.1.data.toList = true := by decide +kernel
theorem ckI_X7_pace : P_X7_pace.all (fun q => chkI M_X7_pace q.1 q.2) = true := List.all_eq_true.mpr (chkS_ok _ 0 _ List.drop_zero ckS_X7_pace).1
theorem fe_X7_pace : ∀ r ∈ P_X7_pace, fetch 82 r.1 = some r.2 := fe_of rfl (chkS_ok _ 0 _ List.drop_zero ckS_X7_pace).2
theorem fe_X7_pace_1 : ∀ r ∈ P_X7_pace_1, fetch 82 r.1 = some r.2 := fun r hr => fe_X7_pace r (List.mem_append_left _ hr)
theorem fe_X7_pace_2 : ∀ r ∈ P_X7_pace_2, fetch 82 r.1 = some r.2 := fun r hr => fe_X7_pace r (List.mem_append_right _ (List.mem_append_left _ hr))
theorem fe_X7_pace_3 : ∀ r ∈ P_X7_pace_3, fetch 82 r.1 = some r.2 := fun r hr => fe_X7_pace r (List.mem_append_right _ (List.mem_append_right _ (hr)))
theorem ckS_X7_rest : chkS M_X7_rest P_X7_rest 0 M_X7_rest.2.2.2.1.data.toList = true := by decide +kernel
theorem ckI_X7_rest : P_X7_rest.all (fun q => chkI M_X7_rest q.1 q.2) = true := List.all_eq_true.mpr (chkS_ok _ 0 _ List.drop_zero ckS_X7_rest).1
theorem fe_X7_rest : ∀ r ∈ P_X7_rest, fetch 83 r.1 = some r.2 := fe_of rfl (chkS_ok _ 0 _ List.drop_zero ckS_X7_rest).2
theorem fe_X7_rest_1 : ∀ r ∈ P_X7_rest_1, fetch 83 r.1 = some r.2 := fun r hr => fe_X7_rest r (List.mem_append_left _ hr)
theorem fe_X7_rest_2 : ∀ r ∈ P_X7_rest_2, fetch 83 r.1 = some r.2 := fun r hr => fe_X7_rest r (List.mem_append_right _ (List.mem_append_left _ hr))
theorem fe_X7_rest_3 : ∀ r ∈ P_X7_rest_3, fetch 83 r.1 = some r.2 := fun r hr => fe_X7_rest r (List.mem_append_right _ (List.mem_append_right _ (hr)))
theorem ckS_X7_dust : chkS M_X7_dust P_X7_dust 0 M_X7_dust.2.2.2.1.data.toList = true := by decide +kernel
theorem ckI_X7_dust : P_X7_dust.all (fun q => chkI M_X7_dust q.1 q.2) = true := List.all_eq_true.mpr (chkS_ok _ 0 _ List.drop_zero ckS_X7_dust).1
theorem fe_X7_dust : ∀ r ∈ P_X7_dust, fetch 84 r.1 = some r.2 := fe_of rfl (chkS_ok _ 0 _ List.drop_zero ckS_X7_dust).2
theorem fe_X7_dust_1 : ∀ r ∈ P_X7_dust_1, fetch 84 r.1 = some r.2 := fun r hr => fe_X7_dust r (List.mem_append_left _ hr)
theorem fe_X7_dust_2 : ∀ r ∈ P_X7_dust_2, fetch 84 r.1 = some r.2 := fun r hr => fe_X7_dust r (List.mem_append_right _ (List.mem_append_left _ hr))
theorem fe_X7_dust_3 : ∀ r ∈ P_X7_dust_3, fetch 84 r.1 = some r.2 := fun r hr => fe_X7_dust r (List.mem_append_right _ (List.mem_append_right _ (hr)))
theorem ckS_X7_doublings : chkS M_X7_doublings P_X7_doublings 0 M_X7_doublings.2.2.2.1.data.toList = true := by decide +kernel
theorem ckI_X7_doublings : P_X7_doublings.all (fun q => chkI M_X7_doublings q.1 q.2) = true := List.all_eq_true.mpr (chkS_ok _ 0 _ List.drop_zero ckS_X7_doublings).1
theorem fe_X7_doublings : ∀ r ∈ P_X7_doublings, fetch 85 r.1 = some r.2 := fe_of rfl (chkS_ok _ 0 _ List.drop_zero ckS_X7_doublings).2
theorem fe_X7_doublings_1 : ∀ r ∈ P_X7_doublings_1, fetch 85 r.1 = some r.2 := fun r hr => fe_X7_doublings r (List.mem_append_left _ hr)
theorem fe_X7_doublings_2 : ∀ r ∈ P_X7_doublings_2, fetch 85 r.1 = some r.2 := fun r hr => fe_X7_doublings r (List.mem_append_right _ (List.mem_append_left _ hr))
theorem fe_X7_doublings_3 : ∀ r ∈ P_X7_doublings_3, fetch 85 r.1 = some r.2 := fun r hr => fe_X7_doublings r (List.mem_append_right _ (List.mem_append_right _ (hr)))
theorem ckS_X7_judge : chkS M_X7_judge P_X7_judge 0 M_X7_judge.2.2.2.1.data.toList = true := by decide +kernel
theorem ckI_X7_judge : P_X7_judge.all (fun q => chkI M_X7_judge q.1 q.2) = true := List.all_eq_true.mpr (chkS_ok _ 0 _ List.drop_zero ckS_X7_judge).1
theorem fe_X7_judge : ∀ r ∈ P_X7_judge, fetch 86 r.1 = some r.2 := fe_of rfl (chkS_ok _ 0 _ List.drop_zero ckS_X7_judge).2
theorem fe_X7_judge_1 : ∀ r ∈ P_X7_judge_1, fetch 86 r.1 = some r.2 := fun r hr => fe_X7_judge r (List.mem_append_left _ hr)
theorem fe_X7_judge_2 : ∀ r ∈ P_X7_judge_2, fetch 86 r.1 = some r.2 := fun r hr => fe_X7_judge r (List.mem_append_right _ (hr))
theorem ckS_X7_film : chkS M_X7_film P_X7_film 0 M_X7_film.2.2.2.1.data.toList = true := by decide +kernel
theorem ckI_X7_film : P_X7_film.all (fun q => chkI M_X7_film q.1 q.2) = true := List.all_eq_true.mpr (chkS_ok _ 0 _ List.drop_zero ckS_X7_film).1
theorem fe_X7_film : ∀ r ∈ P_X7_film, fetch 87 r.1 = some r.2 := fe_of rfl (chkS_ok _ 0 _ List.drop_zero ckS_X7_film).2
theorem fe_X7_film_1 : ∀ r ∈ P_X7_film_1, fetch 87 r.1 = some r.2 := fun r hr => fe_X7_film r (List.mem_append_left _ hr)
theorem fe_X7_film_2 : ∀ r ∈ P_X7_film_2, fetch 87 r.1 = some r.2 := fun r hr => fe_X7_film r (List.mem_append_right _ (hr))
theorem ckS_X7_serves : chkS M_X7_serves P_X7_serves 0 M_X7_serves.2.2.2.1.data.toList = true := by decide +kernel
theorem ckI_X7_serves : P_X7_serves.all (fun q => chkI M_X7_serves q.1 q.2) = true := List.all_eq_true.mpr (chkS_ok _ 0 _ List.drop_zero ckS_X7_serves).1
theorem fe_X7_serves : ∀ r ∈ P_X7_serves, fetch 88 r.1 = some r.2 := fe_of rfl (chkS_ok _ 0 _ List.drop_zero ckS_X7_serves).2
theorem fe_X7_serves_1 : ∀ r ∈ P_X7_serves_1, fetch 88 r.1 = some r.2 := fun r hr => fe_X7_serves r (List.mem_append_left _ hr)
theorem fe_X7_serves_2 : ∀ r ∈ P_X7_serves_2, fetch 88 r.1 = some r.2 := fun r hr => fe_X7_serves r (List.mem_append_right _ (List.mem_append_left _ hr))
theorem fe_X7_serves_3 : ∀ r ∈ P_X7_serves_3, fetch 88 r.1 = some r.2 := fun r hr => fe_X7_serves r (List.mem_append_right _ (List.mem_append_right _ (hr)))
theorem ckS_X7_which : chkS M_X7_which P_X7_which 0 M_X7_which.2.2.2.1.data.toList = true := by decide +kernel
theorem ckI_X7_which : P_X7_which.all (fun q => chkI M_X7_which q.1 q.2) = true := List.all_eq_true.mpr (chkS_ok _ 0 _ List.drop_zero ckS_X7_which).1
theorem fe_X7_which : ∀ r ∈ P_X7_which, fetch 89 r.1 = some r.2 := fe_of rfl (chkS_ok _ 0 _ List.drop_zero ckS_X7_which).2
theorem fe_X7_which_1 : ∀ r ∈ P_X7_which_1, fetch 89 r.1 = some r.2 := fun r hr => fe_X7_which r (List.mem_append_left _ hr)
theorem fe_X7_which_2 : ∀ r ∈ P_X7_which_2, fetch 89 r.1 = some r.2 := fun r hr => fe_X7_which r (List.mem_append_right _ (List.mem_append_left _ hr))
theorem fe_X7_which_3 : ∀ r ∈ P_X7_which_3, fetch 89 r.1 = some r.2 := fun r hr => fe_X7_which r (List.mem_append_right _ (List.mem_append_right _ (hr)))
theorem ckS_X7_fault : chkS M_X7_fault P_X7_fault 0 M_X7_fault.2.2.2.1.data.toList = true := by decide +kernel
theorem ckI_X7_fault : P_X7_fault.all (fun q => chkI M_X7_fault q.1 q.2) = true := List.all_eq_true.mpr (chkS_ok _ 0 _ List.drop_zero ckS_X7_fault).1
theorem fe_X7_fault : ∀ r ∈ P_X7_fault, fetch 90 r.1 = some r.2 := fe_of rfl (chkS_ok _ 0 _ List.drop_zero ckS_X7_fault).2
theorem fe_X7_fault_1 : ∀ r ∈ P_X7_fault_1, fetch 90 r.1 = some r.2 := fun r hr => fe_X7_fault r (List.mem_append_left _ hr)
theorem fe_X7_fault_2 : ∀ r ∈ P_X7_fault_2, fetch 90 r.1 = some r.2 := fun r hr => fe_X7_fault r (List.mem_append_right _ (hr))
theorem ckS_X7_uneven : chkS M_X7_uneven P_X7_uneven 0 M_X7_uneven.2.2.2.1.data.toList = true := by decide +kernel
theorem ckI_X7_uneven : P_X7_uneven.all (fun q => chkI M_X7_uneven q.1 q.2) = true := List.all_eq_true.mpr (chkS_ok _ 0 _ List.drop_zero ckS_X7_uneven).1
theorem fe_X7_uneven : ∀ r ∈ P_X7_uneven, fetch 91 r.1 = some r.2 := fe_of rfl (chkS_ok _ 0 _ List.drop_zero ckS_X7_uneven).2
theorem fe_X7_uneven_1 : ∀ r ∈ P_X7_uneven_1, fetch 91 r.1 = some r.2 := fun r hr => fe_X7_uneven r (List.mem_append_left _ hr)
theorem fe_X7_uneven_2 : ∀ r ∈ P_X7_uneven_2, fetch 91 r.1 = some r.2 := fun r hr => fe_X7_uneven r (List.mem_append_right _ (List.mem_append_left _ hr))
theorem fe_X7_uneven_3 : ∀ r ∈ P_X7_uneven_3, fetch 91 r.1 = some r.2 := fun r hr => fe_X7_uneven r (List.mem_append_right _ (List.mem_append_right _ (List.mem_append_left _ hr)))
theorem fe_X7_uneven_4 : ∀ r ∈ P_X7_uneven_4, fetch 91 r.1 = some r.2 := fun r hr => fe_X7_uneven r (List.mem_append_right _ (List.mem_append_right _ (List.mem_append_right _ (hr))))
theorem ckS_X7_cooks : chkS M_X7_cooks P_X7_cooks 0 M_X7_cooks.2.2.2.1.data.toList = true := by decide +kernel
theorem ckI_X7_cooks : P_X7_cooks.all (fun q => chkI M_X7_cooks q.1 q.2) = true := List.all_eq_true.mpr (chkS_ok _ 0 _ List.drop_zero ckS_X7_cooks).1
theorem fe_X7_cooks : ∀ r ∈ P_X7_cooks, fetch 92 r.1 = some r.2 := fe_of rfl (chkS_ok _ 0 _ List.drop_zero ckS_X7_cooks).2
theorem fe_X7_cooks_1 : ∀ r ∈ P_X7_cooks_1, fetch 92 r.1 = some r.2 := fun r hr => fe_X7_cooks r (List.mem_append_left _ hr)
theorem fe_X7_cooks_2 : ∀ r ∈ P_X7_cooks_2, fetch 92 r.1 = some r.2 := fun r hr => fe_X7_cooks r (List.mem_append_right _ (hr))
theorem ckS_X7_pot : chkS M_X7_pot P_X7_pot 0 M_X7_pot.2.2.2.1.data.toList = true := by decide +kernel
theorem ckI_X7_pot : P_X7_pot.all (fun q => chkI M_X7_pot q.1 q.2) = true := List.all_eq_true.mpr (chkS_ok _ 0 _ List.drop_zero ckS_X7_pot).1
theorem fe_X7_pot : ∀ r ∈ P_X7_pot, fetch 93 r.1 = some r.2 := fe_of rfl (chkS_ok _ 0 _ List.drop_zero ckS_X7_pot).2
theorem fe_X7_pot_1 : ∀ r ∈ P_X7_pot_1, fetch 93 r.1 = some r.2 := fun r hr => fe_X7_pot r (List.mem_append_left _ hr)
theorem fe_X7_pot_2 : ∀ r ∈ P_X7_pot_2, fetch 93 r.1 = some r.2 := fun r hr => fe_X7_pot r (List.mem_append_right _ (hr))
theorem ckS_X7_place : chkS M_X7_place P_X7_place 0 M_X7_place.2.2.2.1.data.toList = true := by decide +kernel
theorem ckI_X7_place : P_X7_place.all (fun q => chkI M_X7_place q.1 q.2) = true := List.all_eq_true.mpr (chkS_ok _ 0 _ List.drop_zero ckS_X7_place).1
theorem fe_X7_place : ∀ r ∈ P_X7_place, fetch 94 r.1 = some r.2 := fe_of rfl (chkS_ok _ 0 _ List.drop_zero ckS_X7_place).2
theorem ckS_X7_apart : chkS M_X7_apart P_X7_apart 0 M_X7_apart.2.2.2.1.data.toList = true := by decide +kernel
theorem ckI_X7_apart : P_X7_apart.all (fun q => chkI M_X7_apart q.1 q.2) = true := List.all_eq_true.mpr (chkS_ok _ 0 _ List.drop_zero ckS_X7_apart).1
theorem fe_X7_apart : ∀ r ∈ P_X7_apart, fetch 95 r.1 = some r.2 := fe_of rfl (chkS_ok _ 0 _ List.drop_zero ckS_X7_apart).2
theorem ckS_X7_parted : chkS M_X7_parted P_X7_parted 0 M_X7_parted.2.2.2.1.data.toList = true := by decide +kernel
theorem ckI_X7_parted : P_X7_parted.all (fun q => chkI M_X7_parted q.1 q.2) = true := List.all_eq_true.mpr (chkS_ok _ 0 _ List.drop_zero ckS_X7_parted).1
theorem fe_X7_parted : ∀ r ∈ P_X7_parted, fetch 96 r.1 = some r.2 := fe_of rfl (chkS_ok _ 0 _ List.drop_zero ckS_X7_parted).2
theorem fe_X7_parted_1 : ∀ r ∈ P_X7_parted_1, fetch 96 r.1 = some r.2 := fun r hr => fe_X7_parted r (List.mem_append_left _ hr)
theorem fe_X7_parted_2 : ∀ r ∈ P_X7_parted_2, fetch 96 r.1 = some r.2 := fun r hr => fe_X7_parted r (List.mem_append_right _ (hr))
theorem ckS_X7_round : chkS M_X7_round P_X7_round 0 M_X7_round.2.2.2.1.data.toList = true := by decide +kernel
theorem ckI_X7_round : P_X7_round.all (fun q => chkI M_X7_round q.1 q.2) = true := List.all_eq_true.mpr (chkS_ok _ 0 _ List.drop_zero ckS_X7_round).1
theorem fe_X7_round : ∀ r ∈ P_X7_round, fetch 97 r.1 = some r.2 := fe_of rfl (chkS_ok _ 0 _ List.drop_zero ckS_X7_round).2
theorem ckS_X7_colours : chkS M_X7_colours P_X7_colours 0 M_X7_colours.2.2.2.1.data.toList = true := by decide +kernel
theorem ckI_X7_colours : P_X7_colours.all (fun q => chkI M_X7_colours q.1 q.2) = true := List.all_eq_true.mpr (chkS_ok _ 0 _ List.drop_zero ckS_X7_colours).1
theorem fe_X7_colours : ∀ r ∈ P_X7_colours, fetch 98 r.1 = some r.2 := fe_of rfl (chkS_ok _ 0 _ List.drop_zero ckS_X7_colours).2
theorem fe_X7_colours_1 : ∀ r ∈ P_X7_colours_1, fetch 98 r.1 = some r.2 := fun r hr => fe_X7_colours r (List.mem_append_left _ hr)
theorem fe_X7_colours_2 : ∀ r ∈ P_X7_colours_2, fetch 98 r.1 = some r.2 := fun r hr => fe_X7_colours r (List.mem_append_right _ (List.mem_append_left _ hr))
theorem fe_X7_colours_3 : ∀ r ∈ P_X7_colours_3, fetch 98 r.1 = some r.2 := fun r hr => fe_X7_colours r (List.mem_append_right _ (List.mem_append_right _ (List.mem_append_left _ hr)))
theorem fe_X7_colours_4 : ∀ r ∈ P_X7_colours_4, fetch 98 r.1 = some r.2 := fun r hr => fe_X7_colours r (List.mem_append_right _ (List.mem_append_right _ (List.mem_append_right _ (hr))))
theorem ckS_X7_thin : chkS M_X7_thin P_X7_thin 0 M_X7_thin.2.2.2.1.data.toList = true := by decide +kernel
theorem ckI_X7_thin : P_X7_thin.all (fun q => chkI M_X7_thin q.1 q.2) = true := List.all_eq_true.mpr (chkS_ok _ 0 _ List.drop_zero ckS_X7_thin).1
theorem fe_X7_thin : ∀ r ∈ P_X7_thin, fetch 99 r.1 = some r.2 := fe_of rfl (chkS_ok _ 0 _ List.drop_zero ckS_X7_thin).2
theorem ckS_X7_odds : chkS M_X7_odds P_X7_odds 0 M_X7_odds.2.2.2.1.data.toList = true := by decide +kernel
theorem ckI_X7_odds : P_X7_odds.all (fun q => chkI M_X7_odds q.1 q.2) = true := List.all_eq_true.mpr (chkS_ok _ 0 _ List.drop_zero ckS_X7_odds).1
theorem fe_X7_odds : ∀ r ∈ P_X7_odds, fetch 100 r.1 = some r.2 := fe_of rfl (chkS_ok _ 0 _ List.drop_zero ckS_X7_odds).2
theorem ckS_X7_record : chkS M_X7_record P_X7_record 0 M_X7_record.2.2.2.1.data.toList = true := by decide +kernel
theorem ckI_X7_record : P_X7_record.all (fun q => chkI M_X7_record q.1 q.2) = true := List.all_eq_true.mpr (chkS_ok _ 0 _ List.drop_zero ckS_X7_record).1
theorem fe_X7_record : ∀ r ∈ P_X7_record, fetch 101 r.1 = some r.2 := fe_of rfl (chkS_ok _ 0 _ List.drop_zero ckS_X7_record).2
theorem fe_X7_record_1 : ∀ r ∈ P_X7_record_1, fetch 101 r.1 = some r.2 := fun r hr => fe_X7_record r (List.mem_append_left _ hr)
theorem fe_X7_record_2 : ∀ r ∈ P_X7_record_2, fetch 101 r.1 = some r.2 := fun r hr => fe_X7_record r (List.mem_append_right _ (hr))
theorem ckS_X7_drawn : chkS M_X7_drawn P_X7_drawn 0 M_X7_drawn.2.2.2.1.data.toList = true := by decide +kernel
theorem ckI_X7_drawn : P_X7_drawn.all (fun q => chkI M_X7_drawn q.1 q.2) = true := List.all_eq_true.mpr (chkS_ok _ 0 _ List.drop_zero ckS_X7_drawn).1
theorem fe_X7_drawn : ∀ r ∈ P_X7_drawn, fetch 102 r.1 = some r.2 := fe_of rfl (chkS_ok _ 0 _ List.drop_zero ckS_X7_drawn).2
theorem fe_X7_drawn_1 : ∀ r ∈ P_X7_drawn_1, fetch 102 r.1 = some r.2 := fun r hr => fe_X7_drawn r (List.mem_append_left _ hr)
theorem fe_X7_drawn_2 : ∀ r ∈ P_X7_drawn_2, fetch 102 r.1 = some r.2 := fun r hr => fe_X7_drawn r (List.mem_append_right _ (hr))
theorem ckS_X7_image : chkS M_X7_image P_X7_image 0 M_X7_image.2.2.2.1.data.toList = true := by decide +kernel
theorem ckI_X7_image : P_X7_image.all (fun q => chkI M_X7_image q.1 q.2) = true := List.all_eq_true.mpr (chkS_ok _ 0 _ List.drop_zero ckS_X7_image).1
theorem fe_X7_image : ∀ r ∈ P_X7_image, fetch 103 r.1 = some r.2 := fe_of rfl (chkS_ok _ 0 _ List.drop_zero ckS_X7_image).2
theorem ckS_X7_back : chkS M_X7_back P_X7_back 0 M_X7_back.2.2.2.1.data.toList = true := by decide +kernel
theorem ckI_X7_back : P_X7_back.all (fun q => chkI M_X7_back q.1 q.2) = true := List.all_eq_true.mpr (chkS_ok _ 0 _ List.drop_zero ckS_X7_back).1
theorem fe_X7_back : ∀ r ∈ P_X7_back, fetch 104 r.1 = some r.2 := fe_of rfl (chkS_ok _ 0 _ List.drop_zero ckS_X7_back).2
theorem ckS_X7_sheet : chkS M_X7_sheet P_X7_sheet 0 M_X7_sheet.2.2.2.1.data.toList = true := by decide +kernel
theorem ckI_X7_sheet : P_X7_sheet.all (fun q => chkI M_X7_sheet q.1 q.2) = true := List.all_eq_true.mpr (chkS_ok _ 0 _ List.drop_zero ckS_X7_sheet).1
theorem fe_X7_sheet : ∀ r ∈ P_X7_sheet, fetch 105 r.1 = some r.2 := fe_of rfl (chkS_ok _ 0 _ List.drop_zero ckS_X7_sheet).2
theorem fe_X7_sheet_1 : ∀ r ∈ P_X7_sheet_1, fetch 105 r.1 = some r.2 := fun r hr => fe_X7_sheet r (List.mem_append_left _ hr)
theorem fe_X7_sheet_2 : ∀ r ∈ P_X7_sheet_2, fetch 105 r.1 = some r.2 := fun r hr => fe_X7_sheet r (List.mem_append_right _ (hr))
theorem ckS_X7_cell : chkS M_X7_cell P_X7_cell 0 M_X7_cell.2.2.2.1.data.toList = true := by decide +kernel
theorem ckI_X7_cell : P_X7_cell.all (fun q => chkI M_X7_cell q.1 q.2) = true := List.all_eq_true.mpr (chkS_ok _ 0 _ List.drop_zero ckS_X7_cell).1
theorem fe_X7_cell : ∀ r ∈ P_X7_cell, fetch 106 r.1 = some r.2 := fe_of rfl (chkS_ok _ 0 _ List.drop_zero ckS_X7_cell).2
theorem fe_X7_cell_1 : ∀ r ∈ P_X7_cell_1, fetch 106 r.1 = some r.2 := fun r hr => fe_X7_cell r (List.mem_append_left _ hr)
theorem fe_X7_cell_2 : ∀ r ∈ P_X7_cell_2, fetch 106 r.1 = some r.2 := fun r hr => fe_X7_cell r (List.mem_append_right _ (hr))
theorem ckS_X7_copy : chkS M_X7_copy P_X7_copy 0 M_X7_copy.2.2.2.1.data.toList = true := by decide +kernel
theorem ckI_X7_copy : P_X7_copy.all (fun q => chkI M_X7_copy q.1 q.2) = true := List.all_eq_true.mpr (chkS_ok _ 0 _ List.drop_zero ckS_X7_copy).1
theorem fe_X7_copy : ∀ r ∈ P_X7_copy, fetch 107 r.1 = some r.2 := fe_of rfl (chkS_ok _ 0 _ List.drop_zero ckS_X7_copy).2
theorem fe_X7_copy_1 : ∀ r ∈ P_X7_copy_1, fetch 107 r.1 = some r.2 := fun r hr => fe_X7_copy r (List.mem_append_left _ hr)
theorem fe_X7_copy_2 : ∀ r ∈ P_X7_copy_2, fetch 107 r.1 = some r.2 := fun r hr => fe_X7_copy r (List.mem_append_right _ (List.mem_append_left _ hr))
theorem fe_X7_copy_3 : ∀ r ∈ P_X7_copy_3, fetch 107 r.1 = some r.2 := fun r hr => fe_X7_copy r (List.mem_append_right _ (List.mem_append_right _ (hr)))
theorem ckS_X7_stepsBy : chkS M_X7_stepsBy P_X7_stepsBy 0 M_X7_stepsBy.2.2.2.1.data.toList = true := by decide +kernel
theorem ckI_X7_stepsBy : P_X7_stepsBy.all (fun q => chkI M_X7_stepsBy q.1 q.2) = true := List.all_eq_true.mpr (chkS_ok _ 0 _ List.drop_zero ckS_X7_stepsBy).1
theorem fe_X7_stepsBy : ∀ r ∈ P_X7_stepsBy, fetch 108 r.1 = some r.2 := fe_of rfl (chkS_ok _ 0 _ List.drop_zero ckS_X7_stepsBy).2
theorem fe_X7_stepsBy_1 : ∀ r ∈ P_X7_stepsBy_1, fetch 108 r.1 = some r.2 := fun r hr => fe_X7_stepsBy r (List.mem_append_left _ hr)
theorem fe_X7_stepsBy_2 : ∀ r ∈ P_X7_stepsBy_2, fetch 108 r.1 = some r.2 := fun r hr => fe_X7_stepsBy r (List.mem_append_right _ (List.mem_append_left _ hr))
theorem fe_X7_stepsBy_3 : ∀ r ∈ P_X7_stepsBy_3, fetch 108 r.1 = some r.2 := fun r hr => fe_X7_stepsBy r (List.mem_append_right _ (List.mem_append_right _ (List.mem_append_left _ hr)))
theorem fe_X7_stepsBy_4 : ∀ r ∈ P_X7_stepsBy_4, fetch 108 r.1 = some r.2 := fun r hr => fe_X7_stepsBy r (List.mem_append_right _ (List.mem_append_right _ (List.mem_append_right _ (hr))))
theorem ckS_X7_taken : chkS M_X7_taken P_X7_taken 0 M_X7_taken.2.2.2.1.data.toList = true := by decide +kernel
theorem ckI_X7_taken : P_X7_taken.all (fun q => chkI M_X7_taken q.1 q.2) = true := List.all_eq_true.mpr (chkS_ok _ 0 _ List.drop_zero ckS_X7_taken).1
theorem fe_X7_taken : ∀ r ∈ P_X7_taken, fetch 109 r.1 = some r.2 := fe_of rfl (chkS_ok _ 0 _ List.drop_zero ckS_X7_taken).2
theorem fe_X7_taken_1 : ∀ r ∈ P_X7_taken_1, fetch 109 r.1 = some r.2 := fun r hr => fe_X7_taken r (List.mem_append_left _ hr)
theorem fe_X7_taken_2 : ∀ r ∈ P_X7_taken_2, fetch 109 r.1 = some r.2 := fun r hr => fe_X7_taken r (List.mem_append_right _ (List.mem_append_left _ hr))
theorem fe_X7_taken_3 : ∀ r ∈ P_X7_taken_3, fetch 109 r.1 = some r.2 := fun r hr => fe_X7_taken r (List.mem_append_right _ (List.mem_append_right _ (hr)))
theorem ckS_X7_within : chkS M_X7_within P_X7_within 0 M_X7_within.2.2.2.1.data.toList = true := by decide +kernel
theorem ckI_X7_within : P_X7_within.all (fun q => chkI M_X7_within q.1 q.2) = true := List.all_eq_true.mpr (chkS_ok _ 0 _ List.drop_zero ckS_X7_within).1
theorem fe_X7_within : ∀ r ∈ P_X7_within, fetch 110 r.1 = some r.2 := fe_of rfl (chkS_ok _ 0 _ List.drop_zero ckS_X7_within).2
theorem ckS_X7_quotient : chkS M_X7_quotient P_X7_quotient 0 M_X7_quotient.2.2.2.1.data.toList = true := by decide +kernel
theorem ckI_X7_quotient : P_X7_quotient.all (fun q => chkI M_X7_quotient q.1 q.2) = true := List.all_eq_true.mpr (chkS_ok _ 0 _ List.drop_zero ckS_X7_quotient).1
theorem fe_X7_quotient : ∀ r ∈ P_X7_quotient, fetch 111 r.1 = some r.2 := fe_of rfl (chkS_ok _ 0 _ List.drop_zero ckS_X7_quotient).2
theorem ckS_X7_isStep : chkS M_X7_isStep P_X7_isStep 0 M_X7_isStep.2.2.2.1.data.toList = true := by decide +kernel
theorem ckI_X7_isStep : P_X7_isStep.all (fun q => chkI M_X7_isStep q.1 q.2) = true := List.all_eq_true.mpr (chkS_ok _ 0 _ List.drop_zero ckS_X7_isStep).1
theorem fe_X7_isStep : ∀ r ∈ P_X7_isStep, fetch 112 r.1 = some r.2 := fe_of rfl (chkS_ok _ 0 _ List.drop_zero ckS_X7_isStep).2
theorem ckS_X7_areSteps : chkS M_X7_areSteps P_X7_areSteps 0 M_X7_areSteps.2.2.2.1.data.toList = true := by decide +kernel
theorem ckI_X7_areSteps : P_X7_areSteps.all (fun q => chkI M_X7_areSteps q.1 q.2) = true := List.all_eq_true.mpr (chkS_ok _ 0 _ List.drop_zero ckS_X7_areSteps).1
theorem fe_X7_areSteps : ∀ r ∈ P_X7_areSteps, fetch 113 r.1 = some r.2 := fe_of rfl (chkS_ok _ 0 _ List.drop_zero ckS_X7_areSteps).2
theorem ckS_X7_isSheet : chkS M_X7_isSheet P_X7_isSheet 0 M_X7_isSheet.2.2.2.1.data.toList = true := by decide +kernel
theorem ckI_X7_isSheet : P_X7_isSheet.all (fun q => chkI M_X7_isSheet q.1 q.2) = true := List.all_eq_true.mpr (chkS_ok _ 0 _ List.drop_zero ckS_X7_isSheet).1
theorem fe_X7_isSheet : ∀ r ∈ P_X7_isSheet, fetch 114 r.1 = some r.2 := fe_of rfl (chkS_ok _ 0 _ List.drop_zero ckS_X7_isSheet).2
theorem ckS_X7_isPlace : chkS M_X7_isPlace P_X7_isPlace 0 M_X7_isPlace.2.2.2.1.data.toList = true := by decide +kernel
theorem ckI_X7_isPlace : P_X7_isPlace.all (fun q => chkI M_X7_isPlace q.1 q.2) = true := List.all_eq_true.mpr (chkS_ok _ 0 _ List.drop_zero ckS_X7_isPlace).1
theorem fe_X7_isPlace : ∀ r ∈ P_X7_isPlace, fetch 115 r.1 = some r.2 := fe_of rfl (chkS_ok _ 0 _ List.drop_zero ckS_X7_isPlace).2
theorem ckS_X7_areOdds : chkS M_X7_areOdds P_X7_areOdds 0 M_X7_areOdds.2.2.2.1.data.toList = true := by decide +kernel
theorem ckI_X7_areOdds : P_X7_areOdds.all (fun q => chkI M_X7_areOdds q.1 q.2) = true := List.all_eq_true.mpr (chkS_ok _ 0 _ List.drop_zero ckS_X7_areOdds).1
theorem fe_X7_areOdds : ∀ r ∈ P_X7_areOdds, fetch 116 r.1 = some r.2 := fe_of rfl (chkS_ok _ 0 _ List.drop_zero ckS_X7_areOdds).2
theorem ckS_X7_refusalOfTest : chkS M_X7_refusalOfTest P_X7_refusalOfTest 0 M_X7_refusalOfTest.2.2.2.1.data.toList = true := by decide +kernel
theorem ckI_X7_refusalOfTest : P_X7_refusalOfTest.all (fun q => chkI M_X7_refusalOfTest q.1 q.2) = true := List.all_eq_true.mpr (chkS_ok _ 0 _ List.drop_zero ckS_X7_refusalOfTest).1
theorem fe_X7_refusalOfTest : ∀ r ∈ P_X7_refusalOfTest, fetch 117 r.1 = some r.2 := fe_of rfl (chkS_ok _ 0 _ List.drop_zero ckS_X7_refusalOfTest).2
theorem fe_X7_refusalOfTest_1 : ∀ r ∈ P_X7_refusalOfTest_1, fetch 117 r.1 = some r.2 := fun r hr => fe_X7_refusalOfTest r (List.mem_append_left _ hr)
theorem fe_X7_refusalOfTest_2 : ∀ r ∈ P_X7_refusalOfTest_2, fetch 117 r.1 = some r.2 := fun r hr => fe_X7_refusalOfTest r (List.mem_append_right _ (hr))
theorem ckS_X7_make : chkS M_X7_make P_X7_make 0 M_X7_make.2.2.2.1.data.toList = true := by decide +kernel
theorem ckI_X7_make : P_X7_make.all (fun q => chkI M_X7_make q.1 q.2) = true := List.all_eq_true.mpr (chkS_ok _ 0 _ List.drop_zero ckS_X7_make).1
theorem fe_X7_make : ∀ r ∈ P_X7_make, fetch 118 r.1 = some r.2 := fe_of rfl (chkS_ok _ 0 _ List.drop_zero ckS_X7_make).2
theorem fe_X7_make_1 : ∀ r ∈ P_X7_make_1, fetch 118 r.1 = some r.2 := fun r hr => fe_X7_make r (List.mem_append_left _ hr)
theorem fe_X7_make_2 : ∀ r ∈ P_X7_make_2, fetch 118 r.1 = some r.2 := fun r hr => fe_X7_make r (List.mem_append_right _ (List.mem_append_left _ hr))
theorem fe_X7_make_3 : ∀ r ∈ P_X7_make_3, fetch 118 r.1 = some r.2 := fun r hr => fe_X7_make r (List.mem_append_right _ (List.mem_append_right _ (hr)))
theorem ckS_X7_tryDrawing : chkS M_X7_tryDrawing P_X7_tryDrawing 0 M_X7_tryDrawing.2.2.2.1.data.toList = true := by decide +kernel
theorem ckI_X7_tryDrawing : P_X7_tryDrawing.all (fun q => chkI M_X7_tryDrawing q.1 q.2) = true := List.all_eq_true.mpr (chkS_ok _ 0 _ List.drop_zero ckS_X7_tryDrawing).1
theorem fe_X7_tryDrawing : ∀ r ∈ P_X7_tryDrawing, fetch 119 r.1 = some r.2 := fe_of rfl (chkS_ok _ 0 _ List.drop_zero ckS_X7_tryDrawing).2
theorem ckS_X7_allTake : chkS M_X7_allTake P_X7_allTake 0 M_X7_allTake.2.2.2.1.data.toList = true := by decide +kernel
theorem ckI_X7_allTake : P_X7_allTake.all (fun q => chkI M_X7_allTake q.1 q.2) = true := List.all_eq_true.mpr (chkS_ok _ 0 _ List.drop_zero ckS_X7_allTake).1
theorem fe_X7_allTake : ∀ r ∈ P_X7_allTake, fetch 120 r.1 = some r.2 := fe_of rfl (chkS_ok _ 0 _ List.drop_zero ckS_X7_allTake).2
theorem ckS_X7_placeBehind : chkS M_X7_placeBehind P_X7_placeBehind 0 M_X7_placeBehind.2.2.2.1.data.toList = true := by decide +kernel
theorem ckI_X7_placeBehind : P_X7_placeBehind.all (fun q => chkI M_X7_placeBehind q.1 q.2) = true := List.all_eq_true.mpr (chkS_ok _ 0 _ List.drop_zero ckS_X7_placeBehind).1
theorem fe_X7_placeBehind : ∀ r ∈ P_X7_placeBehind, fetch 121 r.1 = some r.2 := fe_of rfl (chkS_ok _ 0 _ List.drop_zero ckS_X7_placeBehind).2
theorem ckS_X7_colour : chkS M_X7_colour P_X7_colour 0 M_X7_colour.2.2.2.1.data.toList = true := by decide +kernel
theorem ckI_X7_colour : P_X7_colour.all (fun q => chkI M_X7_colour q.1 q.2) = true := List.all_eq_true.mpr (chkS_ok _ 0 _ List.drop_zero ckS_X7_colour).1
theorem fe_X7_colour : ∀ r ∈ P_X7_colour, fetch 122 r.1 = some r.2 := fe_of rfl (chkS_ok _ 0 _ List.drop_zero ckS_X7_colour).2
theorem fe_X7_colour_1 : ∀ r ∈ P_X7_colour_1, fetch 122 r.1 = some r.2 := fun r hr => fe_X7_colour r (List.mem_append_left _ hr)
theorem fe_X7_colour_2 : ∀ r ∈ P_X7_colour_2, fetch 122 r.1 = some r.2 := fun r hr => fe_X7_colour r (List.mem_append_right _ (List.mem_append_left _ hr))
theorem fe_X7_colour_3 : ∀ r ∈ P_X7_colour_3, fetch 122 r.1 = some r.2 := fun r hr => fe_X7_colour r (List.mem_append_right _ (List.mem_append_right _ (hr)))
theorem ckS_X7_multiplied : chkS M_X7_multiplied P_X7_multiplied 0 M_X7_multiplied.2.2.2.1.data.toList = true := by decide +kernel
theorem ckI_X7_multiplied : P_X7_multiplied.all (fun q => chkI M_X7_multiplied q.1 q.2) = true := List.all_eq_true.mpr (chkS_ok _ 0 _ List.drop_zero ckS_X7_multiplied).1
theorem fe_X7_multiplied : ∀ r ∈ P_X7_multiplied, fetch 123 r.1 = some r.2 := fe_of rfl (chkS_ok _ 0 _ List.drop_zero ckS_X7_multiplied).2
theorem ckS_X7_inLowestTerms : chkS M_X7_inLowestTerms P_X7_inLowestTerms 0 M_X7_inLowestTerms.2.2.2.1.data.toList = true := by decide +kernel
theorem ckI_X7_inLowestTerms : P_X7_inLowestTerms.all (fun q => chkI M_X7_inLowestTerms q.1 q.2) = true := List.all_eq_true.mpr (chkS_ok _ 0 _ List.drop_zero ckS_X7_inLowestTerms).1
theorem fe_X7_inLowestTerms : ∀ r ∈ P_X7_inLowestTerms, fetch 124 r.1 = some r.2 := fe_of rfl (chkS_ok _ 0 _ List.drop_zero ckS_X7_inLowestTerms).2
theorem fe_X7_inLowestTerms_1 : ∀ r ∈ P_X7_inLowestTerms_1, fetch 124 r.1 = some r.2 := fun r hr => fe_X7_inLowestTerms r (List.mem_append_left _ hr)
theorem fe_X7_inLowestTerms_2 : ∀ r ∈ P_X7_inLowestTerms_2, fetch 124 r.1 = some r.2 := fun r hr => fe_X7_inLowestTerms r (List.mem_append_right _ (hr))
theorem ckS_X8_init : chkS M_X8_init P_X8_init 0 M_X8_init.2.2.2.1.data.toList = true := by decide +kernel
theorem ckI_X8_init : P_X8_init.all (fun q => chkI M_X8_init q.1 q.2) = true := List.all_eq_true.mpr (chkS_ok _ 0 _ List.drop_zero ckS_X8_init).1
theorem fe_X8_init : ∀ r ∈ P_X8_init, fetch 125 r.1 = some r.2 := fe_of rfl (chkS_ok _ 0 _ List.drop_zero ckS_X8_init).2
theorem fe_X8_init_1 : ∀ r ∈ P_X8_init_1, fetch 125 r.1 = some r.2 := fun r hr => fe_X8_init r (List.mem_append_left _ hr)
theorem fe_X8_init_2 : ∀ r ∈ P_X8_init_2, fetch 125 r.1 = some r.2 := fun r hr => fe_X8_init r (List.mem_append_right _ (List.mem_append_left _ hr))
theorem fe_X8_init_3 : ∀ r ∈ P_X8_init_3, fetch 125 r.1 = some r.2 := fun r hr => fe_X8_init r (List.mem_append_right _ (List.mem_append_right _ (List.mem_append_left _ hr)))
theorem fe_X8_init_4 : ∀ r ∈ P_X8_init_4, fetch 125 r.1 = some r.2 := fun r hr => fe_X8_init r (List.mem_append_right _ (List.mem_append_right _ (List.mem_append_right _ (List.mem_append_left _ hr))))
theorem fe_X8_init_5 : ∀ r ∈ P_X8_init_5, fetch 125 r.1 = some r.2 := fun r hr => fe_X8_init r (List.mem_append_right _ (List.mem_append_right _ (List.mem_append_right _ (List.mem_append_right _ (List.mem_append_left _ hr)))))
theorem fe_X8_init_6 : ∀ r ∈ P_X8_init_6, fetch 125 r.1 = some r.2 := fun r hr => fe_X8_init r (List.mem_append_right _ (List.mem_append_right _ (List.mem_append_right _ (List.mem_append_right _ (List.mem_append_right _ (List.mem_append_left _ hr))))))
theorem fe_X8_init_7 : ∀ r ∈ P_X8_init_7, fetch 125 r.1 = some r.2 := fun r hr => fe_X8_init r (List.mem_append_right _ (List.mem_append_right _ (List.mem_append_right _ (List.mem_append_right _ (List.mem_append_right _ (List.mem_append_right _ (List.mem_append_left _ hr)))))))
theorem fe_X8_init_8 : ∀ r ∈ P_X8_init_8, fetch 125 r.1 = some r.2 := fun r hr => fe_X8_init r (List.mem_append_right _ (List.mem_append_right _ (List.mem_append_right _ (List.mem_append_right _ (List.mem_append_right _ (List.mem_append_right _ (List.mem_append_right _ (List.mem_append_left _ hr))))))))
theorem fe_X8_init_9 : ∀ r ∈ P_X8_init_9, fetch 125 r.1 = some r.2 := fun r hr => fe_X8_init r (List.mem_append_right _ (List.mem_append_right _ (List.mem_append_right _ (List.mem_append_right _ (List.mem_append_right _ (List.mem_append_right _ (List.mem_append_right _ (List.mem_append_right _ (List.mem_append_left _ hr)))))))))
theorem fe_X8_init_10 : ∀ r ∈ P_X8_init_10, fetch 125 r.1 = some r.2 := fun r hr => fe_X8_init r (List.mem_append_right _ (List.mem_append_right _ (List.mem_append_right _ (List.mem_append_right _ (List.mem_append_right _ (List.mem_append_right _ (List.mem_append_right _ (List.mem_append_right _ (List.mem_append_right _ (List.mem_append_left _ hr))))))))))
theorem fe_X8_init_11 : ∀ r ∈ P_X8_init_11, fetch 125 r.1 = some r.2 := fun r hr => fe_X8_init r (List.mem_append_right _ (List.mem_append_right _ (List.mem_append_right _ (List.mem_append_right _ (List.mem_append_right _ (List.mem_append_right _ (List.mem_append_right _ (List.mem_append_right _ (List.mem_append_right _ (List.mem_append_right _ (List.mem_append_left _ hr)))))))))))
theorem fe_X8_init_12 : ∀ r ∈ P_X8_init_12, fetch 125 r.1 = some r.2 := fun r hr => fe_X8_init r (List.mem_append_right _ (List.mem_append_right _ (List.mem_append_right _ (List.mem_append_right _ (List.mem_append_right _ (List.mem_append_right _ (List.mem_append_right _ (List.mem_append_right _ (List.mem_append_right _ (List.mem_append_right _ (List.mem_append_right _ (List.mem_append_left _ hr))))))))))))
theorem fe_X8_init_13 : ∀ r ∈ P_X8_init_13, fetch 125 r.1 = some r.2 := fun r hr => fe_X8_init r (List.mem_append_right _ (List.mem_append_right _ (List.mem_append_right _ (List.mem_append_right _ (List.mem_append_right _ (List.mem_append_right _ (List.mem_append_right _ (List.mem_append_right _ (List.mem_append_right _ (List.mem_append_right _ (List.mem_append_right _ (List.mem_append_right _ (List.mem_append_left _ hr)))))))))))))
theorem fe_X8_init_14 : ∀ r ∈ P_X8_init_14, fetch 125 r.1 = some r.2 := fun r hr => fe_X8_init r (List.mem_append_right _ (List.mem_append_right _ (List.mem_append_right _ (List.mem_append_right _ (List.mem_append_right _ (List.mem_append_right _ (List.mem_append_right _ (List.mem_append_right _ (List.mem_append_right _ (List.mem_append_right _ (List.mem_append_right _ (List.mem_append_right _ (List.mem_append_right _ (List.mem_append_left _ hr))))))))))))))
theorem fe_X8_init_15 : ∀ r ∈ P_X8_init_15, fetch 125 r.1 = some r.2 := fun r hr => fe_X8_init r (List.mem_append_right _ (List.mem_append_right _ (List.mem_append_right _ (List.mem_append_right _ (List.mem_append_right _ (List.mem_append_right _ (List.mem_append_right _ (List.mem_append_right _ (List.mem_append_right _ (List.mem_append_right _ (List.mem_append_right _ (List.mem_append_right _ (List.mem_append_right _ (List.mem_append_right _ (List.mem_append_left _ hr)))))))))))))))
theorem fe_X8_init_16 : ∀ r ∈ P_X8_init_16, fetch 125 r.1 = some r.2 := fun r hr => fe_X8_init r (List.mem_append_right _ (List.mem_append_right _ (List.mem_append_right _ (List.mem_append_right _ (List.mem_append_right _ (List.mem_append_right _ (List.mem_append_right _ (List.mem_append_right _ (List.mem_append_right _ (List.mem_append_right _ (List.mem_append_right _ (List.mem_append_right _ (List.mem_append_right _ (List.mem_append_right _ (List.mem_append_right _ (List.mem_append_left _ hr))))))))))))))))
theorem fe_X8_init_17 : ∀ r ∈ P_X8_init_17, fetch 125 r.1 = some r.2 := fun r hr => fe_X8_init r (List.mem_append_right _ (List.mem_append_right _ (List.mem_append_right _ (List.mem_append_right _ (List.mem_append_right _ (List.mem_append_right _ (List.mem_append_right _ (List.mem_append_right _ (List.mem_append_right _ (List.mem_append_right _ (List.mem_append_right _ (List.mem_append_right _ (List.mem_append_right _ (List.mem_append_right _ (List.mem_append_right _ (List.mem_append_right _ (List.mem_append_left _ hr)))))))))))))))))
theorem fe_X8_init_18 : ∀ r ∈ P_X8_init_18, fetch 125 r.1 = some r.2 := fun r hr => fe_X8_init r (List.mem_append_right _ (List.mem_append_right _ (List.mem_append_right _ (List.mem_append_right _ (List.mem_append_right _ (List.mem_append_right _ (List.mem_append_right _ (List.mem_append_right _ (List.mem_append_right _ (List.mem_append_right _ (List.mem_append_right _ (List.mem_append_right _ (List.mem_append_right _ (List.mem_append_right _ (List.mem_append_right _ (List.mem_append_right _ (List.mem_append_right _ (List.mem_append_left _ hr))))))))))))))))))
theorem fe_X8_init_19 : ∀ r ∈ P_X8_init_19, fetch 125 r.1 = some r.2 := fun r hr => fe_X8_init r (List.mem_append_right _ (List.mem_append_right _ (List.mem_append_right _ (List.mem_append_right _ (List.mem_append_right _ (List.mem_append_right _ (List.mem_append_right _ (List.mem_append_right _ (List.mem_append_right _ (List.mem_append_right _ (List.mem_append_right _ (List.mem_append_right _ (List.mem_append_right _ (List.mem_append_right _ (List.mem_append_right _ (List.mem_append_right _ (List.mem_append_right _ (List.mem_append_right _ (List.mem_append_left _ hr)))))))))))))))))))
theorem fe_X8_init_20 : ∀ r ∈ P_X8_init_20, fetch 125 r.1 = some r.2 := fun r hr => fe_X8_init r (List.mem_append_right _ (List.mem_append_right _ (List.mem_append_right _ (List.mem_append_right _ (List.mem_append_right _ (List.mem_append_right _ (List.mem_append_right _ (List.mem_append_right _ (List.mem_append_right _ (List.mem_append_right _ (List.mem_append_right _ (List.mem_append_right _ (List.mem_append_right _ (List.mem_append_right _ (List.mem_append_right _ (List.mem_append_right _ (List.mem_append_right _ (List.mem_append_right _ (List.mem_append_right _ (List.mem_append_left _ hr))))))))))))))))))))
theorem fe_X8_init_21 : ∀ r ∈ P_X8_init_21, fetch 125 r.1 = some r.2 := fun r hr => fe_X8_init r (List.mem_append_right _ (List.mem_append_right _ (List.mem_append_right _ (List.mem_append_right _ (List.mem_append_right _ (List.mem_append_right _ (List.mem_append_right _ (List.mem_append_right _ (List.mem_append_right _ (List.mem_append_right _ (List.mem_append_right _ (List.mem_append_right _ (List.mem_append_right _ (List.mem_append_right _ (List.mem_append_right _ (List.mem_append_right _ (List.mem_append_right _ (List.mem_append_right _ (List.mem_append_right _ (List.mem_append_right _ (List.mem_append_left _ hr)))))))))))))))))))))
theorem fe_X8_init_22 : ∀ r ∈ P_X8_init_22, fetch 125 r.1 = some r.2 := fun r hr => fe_X8_init r (List.mem_append_right _ (List.mem_append_right _ (List.mem_append_right _ (List.mem_append_right _ (List.mem_append_right _ (List.mem_append_right _ (List.mem_append_right _ (List.mem_append_right _ (List.mem_append_right _ (List.mem_append_right _ (List.mem_append_right _ (List.mem_append_right _ (List.mem_append_right _ (List.mem_append_right _ (List.mem_append_right _ (List.mem_append_right _ (List.mem_append_right _ (List.mem_append_right _ (List.mem_append_right _ (List.mem_append_right _ (List.mem_append_right _ (List.mem_append_left _ hr))))))))))))))))))))))
theorem fe_X8_init_23 : ∀ r ∈ P_X8_init_23, fetch 125 r.1 = some r.2 := fun r hr => fe_X8_init r (List.mem_append_right _ (List.mem_append_right _ (List.mem_append_right _ (List.mem_append_right _ (List.mem_append_right _ (List.mem_append_right _ (List.mem_append_right _ (List.mem_append_right _ (List.mem_append_right _ (List.mem_append_right _ (List.mem_append_right _ (List.mem_append_right _ (List.mem_append_right _ (List.mem_append_right _ (List.mem_append_right _ (List.mem_append_right _ (List.mem_append_right _ (List.mem_append_right _ (List.mem_append_right _ (List.mem_append_right _ (List.mem_append_right _ (List.mem_append_right _ (List.mem_append_left _ hr)))))))))))))))))))))))
theorem fe_X8_init_24 : ∀ r ∈ P_X8_init_24, fetch 125 r.1 = some r.2 := fun r hr => fe_X8_init r (List.mem_append_right _ (List.mem_append_right _ (List.mem_append_right _ (List.mem_append_right _ (List.mem_append_right _ (List.mem_append_right _ (List.mem_append_right _ (List.mem_append_right _ (List.mem_append_right _ (List.mem_append_right _ (List.mem_append_right _ (List.mem_append_right _ (List.mem_append_right _ (List.mem_append_right _ (List.mem_append_right _ (List.mem_append_right _ (List.mem_append_right _ (List.mem_append_right _ (List.mem_append_right _ (List.mem_append_right _ (List.mem_append_right _ (List.mem_append_right _ (List.mem_append_right _ (List.mem_append_left _ hr))))))))))))))))))))))))
theorem fe_X8_init_25 : ∀ r ∈ P_X8_init_25, fetch 125 r.1 = some r.2 := fun r hr => fe_X8_init r (List.mem_append_right _ (List.mem_append_right _ (List.mem_append_right _ (List.mem_append_right _ (List.mem_append_right _ (List.mem_append_right _ (List.mem_append_right _ (List.mem_append_right _ (List.mem_append_right _ (List.mem_append_right _ (List.mem_append_right _ (List.mem_append_right _ (List.mem_append_right _ (List.mem_append_right _ (List.mem_append_right _ (List.mem_append_right _ (List.mem_append_right _ (List.mem_append_right _ (List.mem_append_right _ (List.mem_append_right _ (List.mem_append_right _ (List.mem_append_right _ (List.mem_append_right _ (List.mem_append_right _ (List.mem_append_left _ hr)))))))))))))))))))))))))
theorem fe_X8_init_26 : ∀ r ∈ P_X8_init_26, fetch 125 r.1 = some r.2 := fun r hr => fe_X8_init r (List.mem_append_right _ (List.mem_append_right _ (List.mem_append_right _ (List.mem_append_right _ (List.mem_append_right _ (List.mem_append_right _ (List.mem_append_right _ (List.mem_append_right _ (List.mem_append_right _ (List.mem_append_right _ (List.mem_append_right _ (List.mem_append_right _ (List.mem_append_right _ (List.mem_append_right _ (List.mem_append_right _ (List.mem_append_right _ (List.mem_append_right _ (List.mem_append_right _ (List.mem_append_right _ (List.mem_append_right _ (List.mem_append_right _ (List.mem_append_right _ (List.mem_append_right _ (List.mem_append_right _ (List.mem_append_right _ (List.mem_append_left _ hr))))))))))))))))))))))))))
theorem fe_X8_init_27 : ∀ r ∈ P_X8_init_27, fetch 125 r.1 = some r.2 := fun r hr => fe_X8_init r (List.mem_append_right _ (List.mem_append_right _ (List.mem_append_right _ (List.mem_append_right _ (List.mem_append_right _ (List.mem_append_right _ (List.mem_append_right _ (List.mem_append_right _ (List.mem_append_right _ (List.mem_append_right _ (List.mem_append_right _ (List.mem_append_right _ (List.mem_append_right _ (List.mem_append_right _ (List.mem_append_right _ (List.mem_append_right _ (List.mem_append_right _ (List.mem_append_right _ (List.mem_append_right _ (List.mem_append_right _ (List.mem_append_right _ (List.mem_append_right _ (List.mem_append_right _ (List.mem_append_right _ (List.mem_append_right _ (List.mem_append_right _ (List.mem_append_left _ hr)))))))))))))))))))))))))))
theorem fe_X8_init_28 : ∀ r ∈ P_X8_init_28, fetch 125 r.1 = some r.2 := fun r hr => fe_X8_init r (List.mem_append_right _ (List.mem_append_right _ (List.mem_append_right _ (List.mem_append_right _ (List.mem_append_right _ (List.mem_append_right _ (List.mem_append_right _ (List.mem_append_right _ (List.mem_append_right _ (List.mem_append_right _ (List.mem_append_right _ (List.mem_append_right _ (List.mem_append_right _ (List.mem_append_right _ (List.mem_append_right _ (List.mem_append_right _ (List.mem_append_right _ (List.mem_append_right _ (List.mem_append_right _ (List.mem_append_right _ (List.mem_append_right _ (List.mem_append_right _ (List.mem_append_right _ (List.mem_append_right _ (List.mem_append_right _ (List.mem_append_right _ (List.mem_append_right _ (List.mem_append_left _ hr))))))))))))))))))))))))))))
theorem fe_X8_init_29 : ∀ r ∈ P_X8_init_29, fetch 125 r.1 = some r.2 := fun r hr => fe_X8_init r (List.mem_append_right _ (List.mem_append_right _ (List.mem_append_right _ (List.mem_append_right _ (List.mem_append_right _ (List.mem_append_right _ (List.mem_append_right _ (List.mem_append_right _ (List.mem_append_right _ (List.mem_append_right _ (List.mem_append_right _ (List.mem_append_right _ (List.mem_append_right _ (List.mem_append_right _ (List.mem_append_right _ (List.mem_append_right _ (List.mem_append_right _ (List.mem_append_right _ (List.mem_append_right _ (List.mem_append_right _ (List.mem_append_right _ (List.mem_append_right _ (List.mem_append_right _ (List.mem_append_right _ (List.mem_append_right _ (List.mem_append_right _ (List.mem_append_right _ (List.mem_append_right _ (List.mem_append_left _ hr)))))))))))))))))))))))))))))
theorem fe_X8_init_30 : ∀ r ∈ P_X8_init_30, fetch 125 r.1 = some r.2 := fun r hr => fe_X8_init r (List.mem_append_right _ (List.mem_append_right _ (List.mem_append_right _ (List.mem_append_right _ (List.mem_append_right _ (List.mem_append_right _ (List.mem_append_right _ (List.mem_append_right _ (List.mem_append_right _ (List.mem_append_right _ (List.mem_append_right _ (List.mem_append_right _ (List.mem_append_right _ (List.mem_append_right _ (List.mem_append_right _ (List.mem_append_right _ (List.mem_append_right _ (List.mem_append_right _ (List.mem_append_right _ (List.mem_append_right _ (List.mem_append_right _ (List.mem_append_right _ (List.mem_append_right _ (List.mem_append_right _ (List.mem_append_right _ (List.mem_append_right _ (List.mem_append_right _ (List.mem_append_right _ (List.mem_append_right _ (List.mem_append_left _ hr))))))))))))))))))))))))))))))
theorem fe_X8_init_31 : ∀ r ∈ P_X8_init_31, fetch 125 r.1 = some r.2 := fun r hr => fe_X8_init r (List.mem_append_right _ (List.mem_append_right _ (List.mem_append_right _ (List.mem_append_right _ (List.mem_append_right _ (List.mem_append_right _ (List.mem_append_right _ (List.mem_append_right _ (List.mem_append_right _ (List.mem_append_right _ (List.mem_append_right _ (List.mem_append_right _ (List.mem_append_right _ (List.mem_append_right _ (List.mem_append_right _ (List.mem_append_right _ (List.mem_append_right _ (List.mem_append_right _ (List.mem_append_right _ (List.mem_append_right _ (List.mem_append_right _ (List.mem_append_right _ (List.mem_append_right _ (List.mem_append_right _ (List.mem_append_right _ (List.mem_append_right _ (List.mem_append_right _ (List.mem_append_right _ (List.mem_append_right _ (List.mem_append_right _ (List.mem_append_left _ hr)))))))))))))))))))))))))))))))
theorem fe_X8_init_32 : ∀ r ∈ P_X8_init_32, fetch 125 r.1 = some r.2 := fun r hr => fe_X8_init r (List.mem_append_right _ (List.mem_append_right _ (List.mem_append_right _ (List.mem_append_right _ (List.mem_append_right _ (List.mem_append_right _ (List.mem_append_right _ (List.mem_append_right _ (List.mem_append_right _ (List.mem_append_right _ (List.mem_append_right _ (List.mem_append_right _ (List.mem_append_right _ (List.mem_append_right _ (List.mem_append_right _ (List.mem_append_right _ (List.mem_append_right _ (List.mem_append_right _ (List.mem_append_right _ (List.mem_append_right _ (List.mem_append_right _ (List.mem_append_right _ (List.mem_append_right _ (List.mem_append_right _ (List.mem_append_right _ (List.mem_append_right _ (List.mem_append_right _ (List.mem_append_right _ (List.mem_append_right _ (List.mem_append_right _ (List.mem_append_right _ (List.mem_append_left _ hr))))))))))))))))))))))))))))))))
theorem fe_X8_init_33 : ∀ r ∈ P_X8_init_33, fetch 125 r.1 = some r.2 := fun r hr => fe_X8_init r (List.mem_append_right _ (List.mem_append_right _ (List.mem_append_right _ (List.mem_append_right _ (List.mem_append_right _ (List.mem_append_right _ (List.mem_append_right _ (List.mem_append_right _ (List.mem_append_right _ (List.mem_append_right _ (List.mem_append_right _ (List.mem_append_right _ (List.mem_append_right _ (List.mem_append_right _ (List.mem_append_right _ (List.mem_append_right _ (List.mem_append_right _ (List.mem_append_right _ (List.mem_append_right _ (List.mem_append_right _ (List.mem_append_right _ (List.mem_append_right _ (List.mem_append_right _ (List.mem_append_right _ (List.mem_append_right _ (List.mem_append_right _ (List.mem_append_right _ (List.mem_append_right _ (List.mem_append_right _ (List.mem_append_right _ (List.mem_append_right _ (List.mem_append_right _ (List.mem_append_left _ hr)))))))))))))))))))))))))))))))))
theorem fe_X8_init_34 : ∀ r ∈ P_X8_init_34, fetch 125 r.1 = some r.2 := fun r hr => fe_X8_init r (List.mem_append_right _ (List.mem_append_right _ (List.mem_append_right _ (List.mem_append_right _ (List.mem_append_right _ (List.mem_append_right _ (List.mem_append_right _ (List.mem_append_right _ (List.mem_append_right _ (List.mem_append_right _ (List.mem_append_right _ (List.mem_append_right _ (List.mem_append_right _ (List.mem_append_right _ (List.mem_append_right _ (List.mem_append_right _ (List.mem_append_right _ (List.mem_append_right _ (List.mem_append_right _ (List.mem_append_right _ (List.mem_append_right _ (List.mem_append_right _ (List.mem_append_right _ (List.mem_append_right _ (List.mem_append_right _ (List.mem_append_right _ (List.mem_append_right _ (List.mem_append_right _ (List.mem_append_right _ (List.mem_append_right _ (List.mem_append_right _ (List.mem_append_right _ (List.mem_append_right _ (List.mem_append_left _ hr))))))))))))))))))))))))))))))))))
theorem fe_X8_init_35 : ∀ r ∈ P_X8_init_35, fetch 125 r.1 = some r.2 := fun r hr => fe_X8_init r (List.mem_append_right _ (List.mem_append_right _ (List.mem_append_right _ (List.mem_append_right _ (List.mem_append_right _ (List.mem_append_right _ (List.mem_append_right _ (List.mem_append_right _ (List.mem_append_right _ (List.mem_append_right _ (List.mem_append_right _ (List.mem_append_right _ (List.mem_append_right _ (List.mem_append_right _ (List.mem_append_right _ (List.mem_append_right _ (List.mem_append_right _ (List.mem_append_right _ (List.mem_append_right _ (List.mem_append_right _ (List.mem_append_right _ (List.mem_append_right _ (List.mem_append_right _ (List.mem_append_right _ (List.mem_append_right _ (List.mem_append_right _ (List.mem_append_right _ (List.mem_append_right _ (List.mem_append_right _ (List.mem_append_right _ (List.mem_append_right _ (List.mem_append_right _ (List.mem_append_right _ (List.mem_append_right _ (List.mem_append_left _ hr)))))))))))))))))))))))))))))))))))
theorem fe_X8_init_36 : ∀ r ∈ P_X8_init_36, fetch 125 r.1 = some r.2 := fun r hr => fe_X8_init r (List.mem_append_right _ (List.mem_append_right _ (List.mem_append_right _ (List.mem_append_right _ (List.mem_append_right _ (List.mem_append_right _ (List.mem_append_right _ (List.mem_append_right _ (List.mem_append_right _ (List.mem_append_right _ (List.mem_append_right _ (List.mem_append_right _ (List.mem_append_right _ (List.mem_append_right _ (List.mem_append_right _ (List.mem_append_right _ (List.mem_append_right _ (List.mem_append_right _ (List.mem_append_right _ (List.mem_append_right _ (List.mem_append_right _ (List.mem_append_right _ (List.mem_append_right _ (List.mem_append_right _ (List.mem_append_right _ (List.mem_append_right _ (List.mem_append_right _ (List.mem_append_right _ (List.mem_append_right _ (List.mem_append_right _ (List.mem_append_right _ (List.mem_append_right _ (List.mem_append_right _ (List.mem_append_right _ (List.mem_append_right _ (List.mem_append_left _ hr))))))))))))))))))))))))))))))))))))
theorem fe_X8_init_37 : ∀ r ∈ P_X8_init_37, fetch 125 r.1 = some r.2 := fun r hr => fe_X8_init r (List.mem_append_right _ (List.mem_append_right _ (List.mem_append_right _ (List.mem_append_right _ (List.mem_append_right _ (List.mem_append_right _ (List.mem_append_right _ (List.mem_append_right _ (List.mem_append_right _ (List.mem_append_right _ (List.mem_append_right _ (List.mem_append_right _ (List.mem_append_right _ (List.mem_append_right _ (List.mem_append_right _ (List.mem_append_right _ (List.mem_append_right _ (List.mem_append_right _ (List.mem_append_right _ (List.mem_append_right _ (List.mem_append_right _ (List.mem_append_right _ (List.mem_append_right _ (List.mem_append_right _ (List.mem_append_right _ (List.mem_append_right _ (List.mem_append_right _ (List.mem_append_right _ (List.mem_append_right _ (List.mem_append_right _ (List.mem_append_right _ (List.mem_append_right _ (List.mem_append_right _ (List.mem_append_right _ (List.mem_append_right _ (List.mem_append_right _ (List.mem_append_left _ hr)))))))))))))))))))))))))))))))))))))
theorem fe_X8_init_38 : ∀ r ∈ P_X8_init_38, fetch 125 r.1 = some r.2 := fun r hr => fe_X8_init r (List.mem_append_right _ (List.mem_append_right _ (List.mem_append_right _ (List.mem_append_right _ (List.mem_append_right _ (List.mem_append_right _ (List.mem_append_right _ (List.mem_append_right _ (List.mem_append_right _ (List.mem_append_right _ (List.mem_append_right _ (List.mem_append_right _ (List.mem_append_right _ (List.mem_append_right _ (List.mem_append_right _ (List.mem_append_right _ (List.mem_append_right _ (List.mem_append_right _ (List.mem_append_right _ (List.mem_append_right _ (List.mem_append_right _ (List.mem_append_right _ (List.mem_append_right _ (List.mem_append_right _ (List.mem_append_right _ (List.mem_append_right _ (List.mem_append_right _ (List.mem_append_right _ (List.mem_append_right _ (List.mem_append_right _ (List.mem_append_right _ (List.mem_append_right _ (List.mem_append_right _ (List.mem_append_right _ (List.mem_append_right _ (List.mem_append_right _ (List.mem_append_right _ (List.mem_append_left _ hr))))))))))))))))))))))))))))))))))))))
theorem fe_X8_init_39 : ∀ r ∈ P_X8_init_39, fetch 125 r.1 = some r.2 := fun r hr => fe_X8_init r (List.mem_append_right _ (List.mem_append_right _ (List.mem_append_right _ (List.mem_append_right _ (List.mem_append_right _ (List.mem_append_right _ (List.mem_append_right _ (List.mem_append_right _ (List.mem_append_right _ (List.mem_append_right _ (List.mem_append_right _ (List.mem_append_right _ (List.mem_append_right _ (List.mem_append_right _ (List.mem_append_right _ (List.mem_append_right _ (List.mem_append_right _ (List.mem_append_right _ (List.mem_append_right _ (List.mem_append_right _ (List.mem_append_right _ (List.mem_append_right _ (List.mem_append_right _ (List.mem_append_right _ (List.mem_append_right _ (List.mem_append_right _ (List.mem_append_right _ (List.mem_append_right _ (List.mem_append_right _ (List.mem_append_right _ (List.mem_append_right _ (List.mem_append_right _ (List.mem_append_right _ (List.mem_append_right _ (List.mem_append_right _ (List.mem_append_right _ (List.mem_append_right _ (List.mem_append_right _ (hr)))))))))))))))))))))))))))))))))))))))
theorem ckS_X8_in : chkS M_X8_in P_X8_in 0 M_X8_in.2.2.2.1.data.toList = true := by decide +kernel
theorem ckI_X8_in : P_X8_in.all (fun q => chkI M_X8_in q.1 q.2) = true := List.all_eq_true.mpr (chkS_ok _ 0 _ List.drop_zero ckS_X8_in).1
theorem fe_X8_in : ∀ r ∈ P_X8_in, fetch 126 r.1 = some r.2 := fe_of rfl (chkS_ok _ 0 _ List.drop_zero ckS_X8_in).2
theorem ckS_X8_isCell : chkS M_X8_isCell P_X8_isCell 0 M_X8_isCell.2.2.2.1.data.toList = true := by decide +kernel
theorem ckI_X8_isCell : P_X8_isCell.all (fun q => chkI M_X8_isCell q.1 q.2) = true := List.all_eq_true.mpr (chkS_ok _ 0 _ List.drop_zero ckS_X8_isCell).1
theorem fe_X8_isCell : ∀ r ∈ P_X8_isCell, fetch 127 r.1 = some r.2 := fe_of rfl (chkS_ok _ 0 _ List.drop_zero ckS_X8_isCell).2
theorem ckS_X8_areSteps : chkS M_X8_areSteps P_X8_areSteps 0 M_X8_areSteps.2.2.2.1.data.toList = true := by decide +kernel
theorem ckI_X8_areSteps : P_X8_areSteps.all (fun q => chkI M_X8_areSteps q.1 q.2) = true := List.all_eq_true.mpr (chkS_ok _ 0 _ List.drop_zero ckS_X8_areSteps).1
theorem fe_X8_areSteps : ∀ r ∈ P_X8_areSteps, fetch 128 r.1 = some r.2 := fe_of rfl (chkS_ok _ 0 _ List.drop_zero ckS_X8_areSteps).2
theorem ckS_X8_size : chkS M_X8_size P_X8_size 0 M_X8_size.2.2.2.1.data.toList = true := by decide +kernel
theorem ckI_X8_size : P_X8_size.all (fun q => chkI M_X8_size q.1 q.2) = true := List.all_eq_true.mpr (chkS_ok _ 0 _ List.drop_zero ckS_X8_size).1
theorem fe_X8_size : ∀ r ∈ P_X8_size, fetch 129 r.1 = some r.2 := fe_of rfl (chkS_ok _ 0 _ List.drop_zero ckS_X8_size).2
theorem ckS_X8_within : chkS M_X8_within P_X8_within 0 M_X8_within.2.2.2.1.data.toList = true := by decide +kernel
theorem ckI_X8_within : P_X8_within.all (fun q => chkI M_X8_within q.1 q.2) = true := List.all_eq_true.mpr (chkS_ok _ 0 _ List.drop_zero ckS_X8_within).1
theorem fe_X8_within : ∀ r ∈ P_X8_within, fetch 130 r.1 = some r.2 := fe_of rfl (chkS_ok _ 0 _ List.drop_zero ckS_X8_within).2
theorem ckS_X8_roll : chkS M_X8_roll P_X8_roll 0 M_X8_roll.2.2.2.1.data.toList = true := by decide +kernel
theorem ckI_X8_roll : P_X8_roll.all (fun q => chkI M_X8_roll q.1 q.2) = true := List.all_eq_true.mpr (chkS_ok _ 0 _ List.drop_zero ckS_X8_roll).1
theorem fe_X8_roll : ∀ r ∈ P_X8_roll, fetch 131 r.1 = some r.2 := fe_of rfl (chkS_ok _ 0 _ List.drop_zero ckS_X8_roll).2
theorem fe_X8_roll_1 : ∀ r ∈ P_X8_roll_1, fetch 131 r.1 = some r.2 := fun r hr => fe_X8_roll r (List.mem_append_left _ hr)
theorem fe_X8_roll_2 : ∀ r ∈ P_X8_roll_2, fetch 131 r.1 = some r.2 := fun r hr => fe_X8_roll r (List.mem_append_right _ (List.mem_append_left _ hr))
theorem fe_X8_roll_3 : ∀ r ∈ P_X8_roll_3, fetch 131 r.1 = some r.2 := fun r hr => fe_X8_roll r (List.mem_append_right _ (List.mem_append_right _ (hr)))
theorem ckS_X8_set : chkS M_X8_set P_X8_set 0 M_X8_set.2.2.2.1.data.toList = true := by decide +kernel
theorem ckI_X8_set : P_X8_set.all (fun q => chkI M_X8_set q.1 q.2) = true := List.all_eq_true.mpr (chkS_ok _ 0 _ List.drop_zero ckS_X8_set).1
theorem fe_X8_set : ∀ r ∈ P_X8_set, fetch 132 r.1 = some r.2 := fe_of rfl (chkS_ok _ 0 _ List.drop_zero ckS_X8_set).2
theorem ckS_X8_holds0 : chkS M_X8_holds0 P_X8_holds0 0 M_X8_holds0.2.2.2.1.data.toList = true := by decide +kernel
theorem ckI_X8_holds0 : P_X8_holds0.all (fun q => chkI M_X8_holds0 q.1 q.2) = true := List.all_eq_true.mpr (chkS_ok _ 0 _ List.drop_zero ckS_X8_holds0).1
theorem fe_X8_holds0 : ∀ r ∈ P_X8_holds0, fetch 133 r.1 = some r.2 := fe_of rfl (chkS_ok _ 0 _ List.drop_zero ckS_X8_holds0).2
theorem ckS_X8_count : chkS M_X8_count P_X8_count 0 M_X8_count.2.2.2.1.data.toList = true := by decide +kernel
theorem ckI_X8_count : P_X8_count.all (fun q => chkI M_X8_count q.1 q.2) = true := List.all_eq_true.mpr (chkS_ok _ 0 _ List.drop_zero ckS_X8_count).1
theorem fe_X8_count : ∀ r ∈ P_X8_count, fetch 134 r.1 = some r.2 := fe_of rfl (chkS_ok _ 0 _ List.drop_zero ckS_X8_count).2
theorem ckS_X8_feed : chkS M_X8_feed P_X8_feed 0 M_X8_feed.2.2.2.1.data.toList = true := by decide +kernel
theorem ckI_X8_feed : P_X8_feed.all (fun q => chkI M_X8_feed q.1 q.2) = true := List.all_eq_true.mpr (chkS_ok _ 0 _ List.drop_zero ckS_X8_feed).1
theorem fe_X8_feed : ∀ r ∈ P_X8_feed, fetch 135 r.1 = some r.2 := fe_of rfl (chkS_ok _ 0 _ List.drop_zero ckS_X8_feed).2
theorem fe_X8_feed_1 : ∀ r ∈ P_X8_feed_1, fetch 135 r.1 = some r.2 := fun r hr => fe_X8_feed r (List.mem_append_left _ hr)
theorem fe_X8_feed_2 : ∀ r ∈ P_X8_feed_2, fetch 135 r.1 = some r.2 := fun r hr => fe_X8_feed r (List.mem_append_right _ (hr))
theorem ckS_X8_wordFrom : chkS M_X8_wordFrom P_X8_wordFrom 0 M_X8_wordFrom.2.2.2.1.data.toList = true := by decide +kernel
theorem ckI_X8_wordFrom : P_X8_wordFrom.all (fun q => chkI M_X8_wordFrom q.1 q.2) = true := List.all_eq_true.mpr (chkS_ok _ 0 _ List.drop_zero ckS_X8_wordFrom).1
theorem fe_X8_wordFrom : ∀ r ∈ P_X8_wordFrom, fetch 136 r.1 = some r.2 := fe_of rfl (chkS_ok _ 0 _ List.drop_zero ckS_X8_wordFrom).2
theorem fe_X8_wordFrom_1 : ∀ r ∈ P_X8_wordFrom_1, fetch 136 r.1 = some r.2 := fun r hr => fe_X8_wordFrom r (List.mem_append_left _ hr)
theorem fe_X8_wordFrom_2 : ∀ r ∈ P_X8_wordFrom_2, fetch 136 r.1 = some r.2 := fun r hr => fe_X8_wordFrom r (List.mem_append_right _ (List.mem_append_left _ hr))
theorem fe_X8_wordFrom_3 : ∀ r ∈ P_X8_wordFrom_3, fetch 136 r.1 = some r.2 := fun r hr => fe_X8_wordFrom r (List.mem_append_right _ (List.mem_append_right _ (hr)))
theorem ckS_X8_next : chkS M_X8_next P_X8_next 0 M_X8_next.2.2.2.1.data.toList = true := by decide +kernel
theorem ckI_X8_next : P_X8_next.all (fun q => chkI M_X8_next q.1 q.2) = true := List.all_eq_true.mpr (chkS_ok _ 0 _ List.drop_zero ckS_X8_next).1
theorem fe_X8_next : ∀ r ∈ P_X8_next, fetch 137 r.1 = some r.2 := fe_of rfl (chkS_ok _ 0 _ List.drop_zero ckS_X8_next).2
theorem fe_X8_next_1 : ∀ r ∈ P_X8_next_1, fetch 137 r.1 = some r.2 := fun r hr => fe_X8_next r (List.mem_append_left _ hr)
theorem fe_X8_next_2 : ∀ r ∈ P_X8_next_2, fetch 137 r.1 = some r.2 := fun r hr => fe_X8_next r (List.mem_append_right _ (List.mem_append_left _ hr))
theorem fe_X8_next_3 : ∀ r ∈ P_X8_next_3, fetch 137 r.1 = some r.2 := fun r hr => fe_X8_next r (List.mem_append_right _ (List.mem_append_right _ (List.mem_append_left _ hr)))
theorem fe_X8_next_4 : ∀ r ∈ P_X8_next_4, fetch 137 r.1 = some r.2 := fun r hr => fe_X8_next r (List.mem_append_right _ (List.mem_append_right _ (List.mem_append_right _ (List.mem_append_left _ hr))))
theorem fe_X8_next_5 : ∀ r ∈ P_X8_next_5, fetch 137 r.1 = some r.2 := fun r hr => fe_X8_next r (List.mem_append_right _ (List.mem_append_right _ (List.mem_append_right _ (List.mem_append_right _ (List.mem_append_left _ hr)))))
theorem fe_X8_next_6 : ∀ r ∈ P_X8_next_6, fetch 137 r.1 = some r.2 := fun r hr => fe_X8_next r (List.mem_append_right _ (List.mem_append_right _ (List.mem_append_right _ (List.mem_append_right _ (List.mem_append_right _ (List.mem_append_left _ hr))))))
theorem fe_X8_next_7 : ∀ r ∈ P_X8_next_7, fetch 137 r.1 = some r.2 := fun r hr => fe_X8_next r (List.mem_append_right _ (List.mem_append_right _ (List.mem_append_right _ (List.mem_append_right _ (List.mem_append_right _ (List.mem_append_right _ (List.mem_append_left _ hr)))))))
theorem fe_X8_next_8 : ∀ r ∈ P_X8_next_8, fetch 137 r.1 = some r.2 := fun r hr => fe_X8_next r (List.mem_append_right _ (List.mem_append_right _ (List.mem_append_right _ (List.mem_append_right _ (List.mem_append_right _ (List.mem_append_right _ (List.mem_append_right _ (List.mem_append_left _ hr))))))))
theorem fe_X8_next_9 : ∀ r ∈ P_X8_next_9, fetch 137 r.1 = some r.2 := fun r hr => fe_X8_next r (List.mem_append_right _ (List.mem_append_right _ (List.mem_append_right _ (List.mem_append_right _ (List.mem_append_right _ (List.mem_append_right _ (List.mem_append_right _ (List.mem_append_right _ (hr)))))))))
theorem ckS_X8_rank : chkS M_X8_rank P_X8_rank 0 M_X8_rank.2.2.2.1.data.toList = true := by decide +kernel
theorem ckI_X8_rank : P_X8_rank.all (fun q => chkI M_X8_rank q.1 q.2) = true := List.all_eq_true.mpr (chkS_ok _ 0 _ List.drop_zero ckS_X8_rank).1
theorem fe_X8_rank : ∀ r ∈ P_X8_rank, fetch 138 r.1 = some r.2 := fe_of rfl (chkS_ok _ 0 _ List.drop_zero ckS_X8_rank).2
theorem fe_X8_rank_1 : ∀ r ∈ P_X8_rank_1, fetch 138 r.1 = some r.2 := fun r hr => fe_X8_rank r (List.mem_append_left _ hr)
theorem fe_X8_rank_2 : ∀ r ∈ P_X8_rank_2, fetch 138 r.1 = some r.2 := fun r hr => fe_X8_rank r (List.mem_append_right _ (hr))
theorem ckS_X8_puts : chkS M_X8_puts P_X8_puts 0 M_X8_puts.2.2.2.1.data.toList = true := by decide +kernel
theorem ckI_X8_puts : P_X8_puts.all (fun q => chkI M_X8_puts q.1 q.2) = true := List.all_eq_true.mpr (chkS_ok _ 0 _ List.drop_zero ckS_X8_puts).1
theorem fe_X8_puts : ∀ r ∈ P_X8_puts, fetch 139 r.1 = some r.2 := fe_of rfl (chkS_ok _ 0 _ List.drop_zero ckS_X8_puts).2
theorem ckS_X8_unwinds : chkS M_X8_unwinds P_X8_unwinds 0 M_X8_unwinds.2.2.2.1.data.toList = true := by decide +kernel
theorem ckI_X8_unwinds : P_X8_unwinds.all (fun q => chkI M_X8_unwinds q.1 q.2) = true := List.all_eq_true.mpr (chkS_ok _ 0 _ List.drop_zero ckS_X8_unwinds).1
theorem fe_X8_unwinds : ∀ r ∈ P_X8_unwinds, fetch 140 r.1 = some r.2 := fe_of rfl (chkS_ok _ 0 _ List.drop_zero ckS_X8_unwinds).2
theorem fe_X8_unwinds_1 : ∀ r ∈ P_X8_unwinds_1, fetch 140 r.1 = some r.2 := fun r hr => fe_X8_unwinds r (List.mem_append_left _ hr)
theorem fe_X8_unwinds_2 : ∀ r ∈ P_X8_unwinds_2, fetch 140 r.1 = some r.2 := fun r hr => fe_X8_unwinds r (List.mem_append_right _ (hr))
theorem ckS_X8_holds : chkS M_X8_holds P_X8_holds 0 M_X8_holds.2.2.2.1.data.toList = true := by decide +kernel
theorem ckI_X8_holds : P_X8_holds.all (fun q => chkI M_X8_holds q.1 q.2) = true := List.all_eq_true.mpr (chkS_ok _ 0 _ List.drop_zero ckS_X8_holds).1
theorem fe_X8_holds : ∀ r ∈ P_X8_holds, fetch 141 r.1 = some r.2 := fe_of rfl (chkS_ok _ 0 _ List.drop_zero ckS_X8_holds).2
theorem ckS_X8_opensOne : chkS M_X8_opensOne P_X8_opensOne 0 M_X8_opensOne.2.2.2.1.data.toList = true := by decide +kernel
theorem ckI_X8_opensOne : P_X8_opensOne.all (fun q => chkI M_X8_opensOne q.1 q.2) = true := List.all_eq_true.mpr (chkS_ok _ 0 _ List.drop_zero ckS_X8_opensOne).1
theorem fe_X8_opensOne : ∀ r ∈ P_X8_opensOne, fetch 142 r.1 = some r.2 := fe_of rfl (chkS_ok _ 0 _ List.drop_zero ckS_X8_opensOne).2
theorem ckS_X8_between : chkS M_X8_between P_X8_between 0 M_X8_between.2.2.2.1.data.toList = true := by decide +kernel
theorem ckI_X8_between : P_X8_between.all (fun q => chkI M_X8_between q.1 q.2) = true := List.all_eq_true.mpr (chkS_ok _ 0 _ List.drop_zero ckS_X8_between).1
theorem fe_X8_between : ∀ r ∈ P_X8_between, fetch 143 r.1 = some r.2 := fe_of rfl (chkS_ok _ 0 _ List.drop_zero ckS_X8_between).2
theorem fe_X8_between_1 : ∀ r ∈ P_X8_between_1, fetch 143 r.1 = some r.2 := fun r hr => fe_X8_between r (List.mem_append_left _ hr)
theorem fe_X8_between_2 : ∀ r ∈ P_X8_between_2, fetch 143 r.1 = some r.2 := fun r hr => fe_X8_between r (List.mem_append_right _ (hr))
theorem ckS_X8_signOf : chkS M_X8_signOf P_X8_signOf 0 M_X8_signOf.2.2.2.1.data.toList = true := by decide +kernel
theorem ckI_X8_signOf : P_X8_signOf.all (fun q => chkI M_X8_signOf q.1 q.2) = true := List.all_eq_true.mpr (chkS_ok _ 0 _ List.drop_zero ckS_X8_signOf).1
theorem fe_X8_signOf : ∀ r ∈ P_X8_signOf, fetch 144 r.1 = some r.2 := fe_of rfl (chkS_ok _ 0 _ List.drop_zero ckS_X8_signOf).2
theorem fe_X8_signOf_1 : ∀ r ∈ P_X8_signOf_1, fetch 144 r.1 = some r.2 := fun r hr => fe_X8_signOf r (List.mem_append_left _ hr)
theorem fe_X8_signOf_2 : ∀ r ∈ P_X8_signOf_2, fetch 144 r.1 = some r.2 := fun r hr => fe_X8_signOf r (List.mem_append_right _ (hr))
theorem ckS_X8_eRead : chkS M_X8_eRead P_X8_eRead 0 M_X8_eRead.2.2.2.1.data.toList = true := by decide +kernel
theorem ckI_X8_eRead : P_X8_eRead.all (fun q => chkI M_X8_eRead q.1 q.2) = true := List.all_eq_true.mpr (chkS_ok _ 0 _ List.drop_zero ckS_X8_eRead).1
theorem fe_X8_eRead : ∀ r ∈ P_X8_eRead, fetch 145 r.1 = some r.2 := fe_of rfl (chkS_ok _ 0 _ List.drop_zero ckS_X8_eRead).2
theorem fe_X8_eRead_1 : ∀ r ∈ P_X8_eRead_1, fetch 145 r.1 = some r.2 := fun r hr => fe_X8_eRead r (List.mem_append_left _ hr)
theorem fe_X8_eRead_2 : ∀ r ∈ P_X8_eRead_2, fetch 145 r.1 = some r.2 := fun r hr => fe_X8_eRead r (List.mem_append_right _ (List.mem_append_left _ hr))
theorem fe_X8_eRead_3 : ∀ r ∈ P_X8_eRead_3, fetch 145 r.1 = some r.2 := fun r hr => fe_X8_eRead r (List.mem_append_right _ (List.mem_append_right _ (List.mem_append_left _ hr)))
theorem fe_X8_eRead_4 : ∀ r ∈ P_X8_eRead_4, fetch 145 r.1 = some r.2 := fun r hr => fe_X8_eRead r (List.mem_append_right _ (List.mem_append_right _ (List.mem_append_right _ (List.mem_append_left _ hr))))
theorem fe_X8_eRead_5 : ∀ r ∈ P_X8_eRead_5, fetch 145 r.1 = some r.2 := fun r hr => fe_X8_eRead r (List.mem_append_right _ (List.mem_append_right _ (List.mem_append_right _ (List.mem_append_right _ (List.mem_append_left _ hr)))))
theorem fe_X8_eRead_6 : ∀ r ∈ P_X8_eRead_6, fetch 145 r.1 = some r.2 := fun r hr => fe_X8_eRead r (List.mem_append_right _ (List.mem_append_right _ (List.mem_append_right _ (List.mem_append_right _ (List.mem_append_right _ (hr))))))
theorem ckS_X8_text : chkS M_X8_text P_X8_text 0 M_X8_text.2.2.2.1.data.toList = true := by decide +kernel
theorem ckI_X8_text : P_X8_text.all (fun q => chkI M_X8_text q.1 q.2) = true := List.all_eq_true.mpr (chkS_ok _ 0 _ List.drop_zero ckS_X8_text).1
theorem fe_X8_text : ∀ r ∈ P_X8_text, fetch 146 r.1 = some r.2 := fe_of rfl (chkS_ok _ 0 _ List.drop_zero ckS_X8_text).2
theorem fe_X8_text_1 : ∀ r ∈ P_X8_text_1, fetch 146 r.1 = some r.2 := fun r hr => fe_X8_text r (List.mem_append_left _ hr)
theorem fe_X8_text_2 : ∀ r ∈ P_X8_text_2, fetch 146 r.1 = some r.2 := fun r hr => fe_X8_text r (List.mem_append_right _ (List.mem_append_left _ hr))
theorem fe_X8_text_3 : ∀ r ∈ P_X8_text_3, fetch 146 r.1 = some r.2 := fun r hr => fe_X8_text r (List.mem_append_right _ (List.mem_append_right _ (List.mem_append_left _ hr)))
theorem fe_X8_text_4 : ∀ r ∈ P_X8_text_4, fetch 146 r.1 = some r.2 := fun r hr => fe_X8_text r (List.mem_append_right _ (List.mem_append_right _ (List.mem_append_right _ (hr))))
theorem ckS_X8_two : chkS M_X8_two P_X8_two 0 M_X8_two.2.2.2.1.data.toList = true := by decide +kernel
theorem ckI_X8_two : P_X8_two.all (fun q => chkI M_X8_two q.1 q.2) = true := List.all_eq_true.mpr (chkS_ok _ 0 _ List.drop_zero ckS_X8_two).1
theorem fe_X8_two : ∀ r ∈ P_X8_two, fetch 147 r.1 = some r.2 := fe_of rfl (chkS_ok _ 0 _ List.drop_zero ckS_X8_two).2
theorem fe_X8_two_1 : ∀ r ∈ P_X8_two_1, fetch 147 r.1 = some r.2 := fun r hr => fe_X8_two r (List.mem_append_left _ hr)
theorem fe_X8_two_2 : ∀ r ∈ P_X8_two_2, fetch 147 r.1 = some r.2 := fun r hr => fe_X8_two r (List.mem_append_right _ (hr))
theorem ckS_X8_worth : chkS M_X8_worth P_X8_worth 0 M_X8_worth.2.2.2.1.data.toList = true := by decide +kernel
theorem ckI_X8_worth : P_X8_worth.all (fun q => chkI M_X8_worth q.1 q.2) = true := List.all_eq_true.mpr (chkS_ok _ 0 _ List.drop_zero ckS_X8_worth).1
theorem fe_X8_worth : ∀ r ∈ P_X8_worth, fetch 148 r.1 = some r.2 := fe_of rfl (chkS_ok _ 0 _ List.drop_zero ckS_X8_worth).2
theorem fe_X8_worth_1 : ∀ r ∈ P_X8_worth_1, fetch 148 r.1 = some r.2 := fun r hr => fe_X8_worth r (List.mem_append_left _ hr)
theorem fe_X8_worth_2 : ∀ r ∈ P_X8_worth_2, fetch 148 r.1 = some r.2 := fun r hr => fe_X8_worth r (List.mem_append_right _ (List.mem_append_left _ hr))
theorem fe_X8_worth_3 : ∀ r ∈ P_X8_worth_3, fetch 148 r.1 = some r.2 := fun r hr => fe_X8_worth r (List.mem_append_right _ (List.mem_append_right _ (List.mem_append_left _ hr)))
theorem fe_X8_worth_4 : ∀ r ∈ P_X8_worth_4, fetch 148 r.1 = some r.2 := fun r hr => fe_X8_worth r (List.mem_append_right _ (List.mem_append_right _ (List.mem_append_right _ (List.mem_append_left _ hr))))
theorem fe_X8_worth_5 : ∀ r ∈ P_X8_worth_5, fetch 148 r.1 = some r.2 := fun r hr => fe_X8_worth r (List.mem_append_right _ (List.mem_append_right _ (List.mem_append_right _ (List.mem_append_right _ (hr)))))
theorem ckS_X8_force : chkS M_X8_force P_X8_force 0 M_X8_force.2.2.2.1.data.toList = true := by decide +kernel
theorem ckI_X8_force : P_X8_force.all (fun q => chkI M_X8_force q.1 q.2) = true := List.all_eq_true.mpr (chkS_ok _ 0 _ List.drop_zero ckS_X8_force).1
theorem fe_X8_force : ∀ r ∈ P_X8_force, fetch 149 r.1 = some r.2 := fe_of rfl (chkS_ok _ 0 _ List.drop_zero ckS_X8_force).2
theorem ckS_X8_step : chkS M_X8_step P_X8_step 0 M_X8_step.2.2.2.1.data.toList = true := by decide +kernel
theorem ckI_X8_step : P_X8_step.all (fun q => chkI M_X8_step q.1 q.2) = true := List.all_eq_true.mpr (chkS_ok _ 0 _ List.drop_zero ckS_X8_step).1
theorem fe_X8_step : ∀ r ∈ P_X8_step, fetch 150 r.1 = some r.2 := fe_of rfl (chkS_ok _ 0 _ List.drop_zero ckS_X8_step).2
theorem fe_X8_step_1 : ∀ r ∈ P_X8_step_1, fetch 150 r.1 = some r.2 := fun r hr => fe_X8_step r (List.mem_append_left _ hr)
theorem fe_X8_step_2 : ∀ r ∈ P_X8_step_2, fetch 150 r.1 = some r.2 := fun r hr => fe_X8_step r (List.mem_append_right _ (List.mem_append_left _ hr))
theorem fe_X8_step_3 : ∀ r ∈ P_X8_step_3, fetch 150 r.1 = some r.2 := fun r hr => fe_X8_step r (List.mem_append_right _ (List.mem_append_right _ (hr)))
theorem ckS_X8_forget : chkS M_X8_forget P_X8_forget 0 M_X8_forget.2.2.2.1.data.toList = true := by decide +kernel
theorem ckI_X8_forget : P_X8_forget.all (fun q => chkI M_X8_forget q.1 q.2) = true := List.all_eq_true.mpr (chkS_ok _ 0 _ List.drop_zero ckS_X8_forget).1
theorem fe_X8_forget : ∀ r ∈ P_X8_forget, fetch 151 r.1 = some r.2 := fe_of rfl (chkS_ok _ 0 _ List.drop_zero ckS_X8_forget).2
theorem ckS_X8_takesOf : chkS M_X8_takesOf P_X8_takesOf 0 M_X8_takesOf.2.2.2.1.data.toList = true := by decide +kernel
theorem ckI_X8_takesOf : P_X8_takesOf.all (fun q => chkI M_X8_takesOf q.1 q.2) = true := List.all_eq_true.mpr (chkS_ok _ 0 _ List.drop_zero ckS_X8_takesOf).1
theorem fe_X8_takesOf : ∀ r ∈ P_X8_takesOf, fetch 152 r.1 = some r.2 := fe_of rfl (chkS_ok _ 0 _ List.drop_zero ckS_X8_takesOf).2
theorem fe_X8_takesOf_1 : ∀ r ∈ P_X8_takesOf_1, fetch 152 r.1 = some r.2 := fun r hr => fe_X8_takesOf r (List.mem_append_left _ hr)
theorem fe_X8_takesOf_2 : ∀ r ∈ P_X8_takesOf_2, fetch 152 r.1 = some r.2 := fun r hr => fe_X8_takesOf r (List.mem_append_right _ (hr))
theorem ckS_X8_stepTold : chkS M_X8_stepTold P_X8_stepTold 0 M_X8_stepTold.2.2.2.1.data.toList = true := by decide +kernel
theorem ckI_X8_stepTold : P_X8_stepTold.all (fun q => chkI M_X8_stepTold q.1 q.2) = true := List.all_eq_true.mpr (chkS_ok _ 0 _ List.drop_zero ckS_X8_stepTold).1
theorem fe_X8_stepTold : ∀ r ∈ P_X8_stepTold, fetch 153 r.1 = some r.2 := fe_of rfl (chkS_ok _ 0 _ List.drop_zero ckS_X8_stepTold).2
theorem fe_X8_stepTold_1 : ∀ r ∈ P_X8_stepTold_1, fetch 153 r.1 = some r.2 := fun r hr => fe_X8_stepTold r (List.mem_append_left _ hr)
theorem fe_X8_stepTold_2 : ∀ r ∈ P_X8_stepTold_2, fetch 153 r.1 = some r.2 := fun r hr => fe_X8_stepTold r (List.mem_append_right _ (hr))
theorem ckS_X8_thickOf : chkS M_X8_thickOf P_X8_thickOf 0 M_X8_thickOf.2.2.2.1.data.toList = true := by decide +kernel
theorem ckI_X8_thickOf : P_X8_thickOf.all (fun q => chkI M_X8_thickOf q.1 q.2) = true := List.all_eq_true.mpr (chkS_ok _ 0 _ List.drop_zero ckS_X8_thickOf).1
theorem fe_X8_thickOf : ∀ r ∈ P_X8_thickOf, fetch 154 r.1 = some r.2 := fe_of rfl (chkS_ok _ 0 _ List.drop_zero ckS_X8_thickOf).2
theorem ckS_X8_asks : chkS M_X8_asks P_X8_asks 0 M_X8_asks.2.2.2.1.data.toList = true := by decide +kernel
theorem ckI_X8_asks : P_X8_asks.all (fun q => chkI M_X8_asks q.1 q.2) = true := List.all_eq_true.mpr (chkS_ok _ 0 _ List.drop_zero ckS_X8_asks).1
theorem fe_X8_asks : ∀ r ∈ P_X8_asks, fetch 155 r.1 = some r.2 := fe_of rfl (chkS_ok _ 0 _ List.drop_zero ckS_X8_asks).2
theorem fe_X8_asks_1 : ∀ r ∈ P_X8_asks_1, fetch 155 r.1 = some r.2 := fun r hr => fe_X8_asks r (List.mem_append_left _ hr)
theorem fe_X8_asks_2 : ∀ r ∈ P_X8_asks_2, fetch 155 r.1 = some r.2 := fun r hr => fe_X8_asks r (List.mem_append_right _ (hr))
theorem ckS_X8_allLength : chkS M_X8_allLength P_X8_allLength 0 M_X8_allLength.2.2.2.1.data.toList = true := by decide +kernel
theorem ckI_X8_allLength : P_X8_allLength.all (fun q => chkI M_X8_allLength q.1 q.2) = true := List.all_eq_true.mpr (chkS_ok _ 0 _ List.drop_zero ckS_X8_allLength).1
theorem fe_X8_allLength : ∀ r ∈ P_X8_allLength, fetch 156 r.1 = some r.2 := fe_of rfl (chkS_ok _ 0 _ List.drop_zero ckS_X8_allLength).2
theorem ckS_X8_drawsMore : chkS M_X8_drawsMore P_X8_drawsMore 0 M_X8_drawsMore.2.2.2.1.data.toList = true := by decide +kernel
theorem ckI_X8_drawsMore : P_X8_drawsMore.all (fun q => chkI M_X8_drawsMore q.1 q.2) = true := List.all_eq_true.mpr (chkS_ok _ 0 _ List.drop_zero ckS_X8_drawsMore).1
theorem fe_X8_drawsMore : ∀ r ∈ P_X8_drawsMore, fetch 157 r.1 = some r.2 := fe_of rfl (chkS_ok _ 0 _ List.drop_zero ckS_X8_drawsMore).2
theorem ckS_X8_draws : chkS M_X8_draws P_X8_draws 0 M_X8_draws.2.2.2.1.data.toList = true := by decide +kernel
theorem ckI_X8_draws : P_X8_draws.all (fun q => chkI M_X8_draws q.1 q.2) = true := List.all_eq_true.mpr (chkS_ok _ 0 _ List.drop_zero ckS_X8_draws).1
theorem fe_X8_draws : ∀ r ∈ P_X8_draws, fetch 158 r.1 = some r.2 := fe_of rfl (chkS_ok _ 0 _ List.drop_zero ckS_X8_draws).2
theorem fe_X8_draws_1 : ∀ r ∈ P_X8_draws_1, fetch 158 r.1 = some r.2 := fun r hr => fe_X8_draws r (List.mem_append_left _ hr)
theorem fe_X8_draws_2 : ∀ r ∈ P_X8_draws_2, fetch 158 r.1 = some r.2 := fun r hr => fe_X8_draws r (List.mem_append_right _ (List.mem_append_left _ hr))
theorem fe_X8_draws_3 : ∀ r ∈ P_X8_draws_3, fetch 158 r.1 = some r.2 := fun r hr => fe_X8_draws r (List.mem_append_right _ (List.mem_append_right _ (List.mem_append_left _ hr)))
theorem fe_X8_draws_4 : ∀ r ∈ P_X8_draws_4, fetch 158 r.1 = some r.2 := fun r hr => fe_X8_draws r (List.mem_append_right _ (List.mem_append_right _ (List.mem_append_right _ (List.mem_append_left _ hr))))
theorem fe_X8_draws_5 : ∀ r ∈ P_X8_draws_5, fetch 158 r.1 = some r.2 := fun r hr => fe_X8_draws r (List.mem_append_right _ (List.mem_append_right _ (List.mem_append_right _ (List.mem_append_right _ (List.mem_append_left _ hr)))))
theorem fe_X8_draws_6 : ∀ r ∈ P_X8_draws_6, fetch 158 r.1 = some r.2 := fun r hr => fe_X8_draws r (List.mem_append_right _ (List.mem_append_right _ (List.mem_append_right _ (List.mem_append_right _ (List.mem_append_right _ (List.mem_append_left _ hr))))))
theorem fe_X8_draws_7 : ∀ r ∈ P_X8_draws_7, fetch 158 r.1 = some r.2 := fun r hr => fe_X8_draws r (List.mem_append_right _ (List.mem_append_right _ (List.mem_append_right _ (List.mem_append_right _ (List.mem_append_right _ (List.mem_append_right _ (hr)))))))
theorem ckS_X8_keepsRow : chkS M_X8_keepsRow P_X8_keepsRow 0 M_X8_keepsRow.2.2.2.1.data.toList = true := by decide +kernel
theorem ckI_X8_keepsRow : P_X8_keepsRow.all (fun q => chkI M_X8_keepsRow q.1 q.2) = true := List.all_eq_true.mpr (chkS_ok _ 0 _ List.drop_zero ckS_X8_keepsRow).1
theorem fe_X8_keepsRow : ∀ r ∈ P_X8_keepsRow, fetch 159 r.1 = some r.2 := fe_of rfl (chkS_ok _ 0 _ List.drop_zero ckS_X8_keepsRow).2
theorem fe_X8_keepsRow_1 : ∀ r ∈ P_X8_keepsRow_1, fetch 159 r.1 = some r.2 := fun r hr => fe_X8_keepsRow r (List.mem_append_left _ hr)
theorem fe_X8_keepsRow_2 : ∀ r ∈ P_X8_keepsRow_2, fetch 159 r.1 = some r.2 := fun r hr => fe_X8_keepsRow r (List.mem_append_right _ (hr))
theorem ckS_X8_bounces : chkS M_X8_bounces P_X8_bounces 0 M_X8_bounces.2.2.2.1.data.toList = true := by decide +kernel
theorem ckI_X8_bounces : P_X8_bounces.all (fun q => chkI M_X8_bounces q.1 q.2) = true := List.all_eq_true.mpr (chkS_ok _ 0 _ List.drop_zero ckS_X8_bounces).1
theorem fe_X8_bounces : ∀ r ∈ P_X8_bounces, fetch 160 r.1 = some r.2 := fe_of rfl (chkS_ok _ 0 _ List.drop_zero ckS_X8_bounces).2
theorem fe_X8_bounces_1 : ∀ r ∈ P_X8_bounces_1, fetch 160 r.1 = some r.2 := fun r hr => fe_X8_bounces r (List.mem_append_left _ hr)
theorem fe_X8_bounces_2 : ∀ r ∈ P_X8_bounces_2, fetch 160 r.1 = some r.2 := fun r hr => fe_X8_bounces r (List.mem_append_right _ (hr))
theorem ckS_X8_doubles : chkS M_X8_doubles P_X8_doubles 0 M_X8_doubles.2.2.2.1.data.toList = true := by decide +kernel
theorem ckI_X8_doubles : P_X8_doubles.all (fun q => chkI M_X8_doubles q.1 q.2) = true := List.all_eq_true.mpr (chkS_ok _ 0 _ List.drop_zero ckS_X8_doubles).1
theorem fe_X8_doubles : ∀ r ∈ P_X8_doubles, fetch 161 r.1 = some r.2 := fe_of rfl (chkS_ok _ 0 _ List.drop_zero ckS_X8_doubles).2
theorem fe_X8_doubles_1 : ∀ r ∈ P_X8_doubles_1, fetch 161 r.1 = some r.2 := fun r hr => fe_X8_doubles r (List.mem_append_left _ hr)
theorem fe_X8_doubles_2 : ∀ r ∈ P_X8_doubles_2, fetch 161 r.1 = some r.2 := fun r hr => fe_X8_doubles r (List.mem_append_right _ (List.mem_append_left _ hr))
theorem fe_X8_doubles_3 : ∀ r ∈ P_X8_doubles_3, fetch 161 r.1 = some r.2 := fun r hr => fe_X8_doubles r (List.mem_append_right _ (List.mem_append_right _ (List.mem_append_left _ hr)))
theorem fe_X8_doubles_4 : ∀ r ∈ P_X8_doubles_4, fetch 161 r.1 = some r.2 := fun r hr => fe_X8_doubles r (List.mem_append_right _ (List.mem_append_right _ (List.mem_append_right _ (hr))))
theorem ckS_X8_cuts : chkS M_X8_cuts P_X8_cuts 0 M_X8_cuts.2.2.2.1.data.toList = true := by decide +kernel
theorem ckI_X8_cuts : P_X8_cuts.all (fun q => chkI M_X8_cuts q.1 q.2) = true := List.all_eq_true.mpr (chkS_ok _ 0 _ List.drop_zero ckS_X8_cuts).1
theorem fe_X8_cuts : ∀ r ∈ P_X8_cuts, fetch 162 r.1 = some r.2 := fe_of rfl (chkS_ok _ 0 _ List.drop_zero ckS_X8_cuts).2
theorem fe_X8_cuts_1 : ∀ r ∈ P_X8_cuts_1, fetch 162 r.1 = some r.2 := fun r hr => fe_X8_cuts r (List.mem_append_left _ hr)
theorem fe_X8_cuts_2 : ∀ r ∈ P_X8_cuts_2, fetch 162 r.1 = some r.2 := fun r hr => fe_X8_cuts r (List.mem_append_right _ (List.mem_append_left _ hr))
theorem fe_X8_cuts_3 : ∀ r ∈ P_X8_cuts_3, fetch 162 r.1 = some r.2 := fun r hr => fe_X8_cuts r (List.mem_append_right _ (List.mem_append_right _ (hr)))
theorem ckS_X8_rests : chkS M_X8_rests P_X8_rests 0 M_X8_rests.2.2.2.1.data.toList = true := by decide +kernel
theorem ckI_X8_rests : P_X8_rests.all (fun q => chkI M_X8_rests q.1 q.2) = true := List.all_eq_true.mpr (chkS_ok _ 0 _ List.drop_zero ckS_X8_rests).1
theorem fe_X8_rests : ∀ r ∈ P_X8_rests, fetch 163 r.1 = some r.2 := fe_of rfl (chkS_ok _ 0 _ List.drop_zero ckS_X8_rests).2
theorem ckS_X8_dusts : chkS M_X8_dusts P_X8_dusts 0 M_X8_dusts.2.2.2.1.data.toList = true := by decide +kernel
theorem ckI_X8_dusts : P_X8_dusts.all (fun q => chkI M_X8_dusts q.1 q.2) = true := List.all_eq_true.mpr (chkS_ok _ 0 _ List.drop_zero ckS_X8_dusts).1
theorem fe_X8_dusts : ∀ r ∈ P_X8_dusts, fetch 164 r.1 = some r.2 := fe_of rfl (chkS_ok _ 0 _ List.drop_zero ckS_X8_dusts).2
theorem ckS_X8_makes : chkS M_X8_makes P_X8_makes 0 M_X8_makes.2.2.2.1.data.toList = true := by decide +kernel
theorem ckI_X8_makes : P_X8_makes.all (fun q => chkI M_X8_makes q.1 q.2) = true := List.all_eq_true.mpr (chkS_ok _ 0 _ List.drop_zero ckS_X8_makes).1
theorem fe_X8_makes : ∀ r ∈ P_X8_makes, fetch 165 r.1 = some r.2 := fe_of rfl (chkS_ok _ 0 _ List.drop_zero ckS_X8_makes).2
theorem fe_X8_makes_1 : ∀ r ∈ P_X8_makes_1, fetch 165 r.1 = some r.2 := fun r hr => fe_X8_makes r (List.mem_append_left _ hr)
theorem fe_X8_makes_2 : ∀ r ∈ P_X8_makes_2, fetch 165 r.1 = some r.2 := fun r hr => fe_X8_makes r (List.mem_append_right _ (List.mem_append_left _ hr))
theorem fe_X8_makes_3 : ∀ r ∈ P_X8_makes_3, fetch 165 r.1 = some r.2 := fun r hr => fe_X8_makes r (List.mem_append_right _ (List.mem_append_right _ (hr)))
theorem ckS_X8_begins : chkS M_X8_begins P_X8_begins 0 M_X8_begins.2.2.2.1.data.toList = true := by decide +kernel
theorem ckI_X8_begins : P_X8_begins.all (fun q => chkI M_X8_begins q.1 q.2) = true := List.all_eq_true.mpr (chkS_ok _ 0 _ List.drop_zero ckS_X8_begins).1
theorem fe_X8_begins : ∀ r ∈ P_X8_begins, fetch 166 r.1 = some r.2 := fe_of rfl (chkS_ok _ 0 _ List.drop_zero ckS_X8_begins).2
theorem fe_X8_begins_1 : ∀ r ∈ P_X8_begins_1, fetch 166 r.1 = some r.2 := fun r hr => fe_X8_begins r (List.mem_append_left _ hr)
theorem fe_X8_begins_2 : ∀ r ∈ P_X8_begins_2, fetch 166 r.1 = some r.2 := fun r hr => fe_X8_begins r (List.mem_append_right _ (hr))
theorem ckS_X8_goesBut : chkS M_X8_goesBut P_X8_goesBut 0 M_X8_goesBut.2.2.2.1.data.toList = true := by decide +kernel
theorem ckI_X8_goesBut : P_X8_goesBut.all (fun q => chkI M_X8_goesBut q.1 q.2) = true := List.all_eq_true.mpr (chkS_ok _ 0 _ List.drop_zero ckS_X8_goesBut).1
theorem fe_X8_goesBut : ∀ r ∈ P_X8_goesBut, fetch 167 r.1 = some r.2 := fe_of rfl (chkS_ok _ 0 _ List.drop_zero ckS_X8_goesBut).2
theorem ckS_X8_goes : chkS M_X8_goes P_X8_goes 0 M_X8_goes.2.2.2.1.data.toList = true := by decide +kernel
theorem ckI_X8_goes : P_X8_goes.all (fun q => chkI M_X8_goes q.1 q.2) = true := List.all_eq_true.mpr (chkS_ok _ 0 _ List.drop_zero ckS_X8_goes).1
theorem fe_X8_goes : ∀ r ∈ P_X8_goes, fetch 168 r.1 = some r.2 := fe_of rfl (chkS_ok _ 0 _ List.drop_zero ckS_X8_goes).2
theorem ckS_X8_rope : chkS M_X8_rope P_X8_rope 0 M_X8_rope.2.2.2.1.data.toList = true := by decide +kernel
theorem ckI_X8_rope : P_X8_rope.all (fun q => chkI M_X8_rope q.1 q.2) = true := List.all_eq_true.mpr (chkS_ok _ 0 _ List.drop_zero ckS_X8_rope).1
theorem fe_X8_rope : ∀ r ∈ P_X8_rope, fetch 169 r.1 = some r.2 := fe_of rfl (chkS_ok _ 0 _ List.drop_zero ckS_X8_rope).2
theorem fe_X8_rope_1 : ∀ r ∈ P_X8_rope_1, fetch 169 r.1 = some r.2 := fun r hr => fe_X8_rope r (List.mem_append_left _ hr)
theorem fe_X8_rope_2 : ∀ r ∈ P_X8_rope_2, fetch 169 r.1 = some r.2 := fun r hr => fe_X8_rope r (List.mem_append_right _ (hr))
theorem ckS_X8_least : chkS M_X8_least P_X8_least 0 M_X8_least.2.2.2.1.data.toList = true := by decide +kernel
theorem ckI_X8_least : P_X8_least.all (fun q => chkI M_X8_least q.1 q.2) = true := List.all_eq_true.mpr (chkS_ok _ 0 _ List.drop_zero ckS_X8_least).1
theorem fe_X8_least : ∀ r ∈ P_X8_least, fetch 170 r.1 = some r.2 := fe_of rfl (chkS_ok _ 0 _ List.drop_zero ckS_X8_least).2
theorem ckS_X8_greatest : chkS M_X8_greatest P_X8_greatest 0 M_X8_greatest.2.2.2.1.data.toList = true := by decide +kernel
theorem ckI_X8_greatest : P_X8_greatest.all (fun q => chkI M_X8_greatest q.1 q.2) = true := List.all_eq_true.mpr (chkS_ok _ 0 _ List.drop_zero ckS_X8_greatest).1
theorem fe_X8_greatest : ∀ r ∈ P_X8_greatest, fetch 171 r.1 = some r.2 := fe_of rfl (chkS_ok _ 0 _ List.drop_zero ckS_X8_greatest).2
theorem ckS_X8_spread : chkS M_X8_spread P_X8_spread 0 M_X8_spread.2.2.2.1.data.toList = true := by decide +kernel
theorem ckI_X8_spread : P_X8_spread.all (fun q => chkI M_X8_spread q.1 q.2) = true := List.all_eq_true.mpr (chkS_ok _ 0 _ List.drop_zero ckS_X8_spread).1
theorem fe_X8_spread : ∀ r ∈ P_X8_spread, fetch 172 r.1 = some r.2 := fe_of rfl (chkS_ok _ 0 _ List.drop_zero ckS_X8_spread).2
theorem ckS_X8_doubled : chkS M_X8_doubled P_X8_doubled 0 M_X8_doubled.2.2.2.1.data.toList = true := by decide +kernel
theorem ckI_X8_doubled : P_X8_doubled.all (fun q => chkI M_X8_doubled q.1 q.2) = true := List.all_eq_true.mpr (chkS_ok _ 0 _ List.drop_zero ckS_X8_doubled).1
theorem fe_X8_doubled : ∀ r ∈ P_X8_doubled, fetch 173 r.1 = some r.2 := fe_of rfl (chkS_ok _ 0 _ List.drop_zero ckS_X8_doubled).2
theorem ckS_X8_state : chkS M_X8_state P_X8_state 0 M_X8_state.2.2.2.1.data.toList = true := by decide +kernel
theorem ckI_X8_state : P_X8_state.all (fun q => chkI M_X8_state q.1 q.2) = true := List.all_eq_true.mpr (chkS_ok _ 0 _ List.drop_zero ckS_X8_state).1
theorem fe_X8_state : ∀ r ∈ P_X8_state, fetch 174 r.1 = some r.2 := fe_of rfl (chkS_ok _ 0 _ List.drop_zero ckS_X8_state).2
theorem fe_X8_state_1 : ∀ r ∈ P_X8_state_1, fetch 174 r.1 = some r.2 := fun r hr => fe_X8_state r (List.mem_append_left _ hr)
theorem fe_X8_state_2 : ∀ r ∈ P_X8_state_2, fetch 174 r.1 = some r.2 := fun r hr => fe_X8_state r (List.mem_append_right _ (List.mem_append_left _ hr))
theorem fe_X8_state_3 : ∀ r ∈ P_X8_state_3, fetch 174 r.1 = some r.2 := fun r hr => fe_X8_state r (List.mem_append_right _ (List.mem_append_right _ (hr)))
theorem ckS_X8_both : chkS M_X8_both P_X8_both 0 M_X8_both.2.2.2.1.data.toList = true := by decide +kernel
theorem ckI_X8_both : P_X8_both.all (fun q => chkI M_X8_both q.1 q.2) = true := List.all_eq_true.mpr (chkS_ok _ 0 _ List.drop_zero ckS_X8_both).1
theorem fe_X8_both : ∀ r ∈ P_X8_both, fetch 175 r.1 = some r.2 := fe_of rfl (chkS_ok _ 0 _ List.drop_zero ckS_X8_both).2
theorem ckS_X8_whole : chkS M_X8_whole P_X8_whole 0 M_X8_whole.2.2.2.1.data.toList = true := by decide +kernel
theorem ckI_X8_whole : P_X8_whole.all (fun q => chkI M_X8_whole q.1 q.2) = true := List.all_eq_true.mpr (chkS_ok _ 0 _ List.drop_zero ckS_X8_whole).1
theorem fe_X8_whole : ∀ r ∈ P_X8_whole, fetch 176 r.1 = some r.2 := fe_of rfl (chkS_ok _ 0 _ List.drop_zero ckS_X8_whole).2
theorem ckS_X8_stop : chkS M_X8_stop P_X8_stop 0 M_X8_stop.2.2.2.1.data.toList = true := by decide +kernel
theorem ckI_X8_stop : P_X8_stop.all (fun q => chkI M_X8_stop q.1 q.2) = true := List.all_eq_true.mpr (chkS_ok _ 0 _ List.drop_zero ckS_X8_stop).1
theorem fe_X8_stop : ∀ r ∈ P_X8_stop, fetch 177 r.1 = some r.2 := fe_of rfl (chkS_ok _ 0 _ List.drop_zero ckS_X8_stop).2
theorem ckS_X8_worst : chkS M_X8_worst P_X8_worst 0 M_X8_worst.2.2.2.1.data.toList = true := by decide +kernel
theorem ckI_X8_worst : P_X8_worst.all (fun q => chkI M_X8_worst q.1 q.2) = true := List.all_eq_true.mpr (chkS_ok _ 0 _ List.drop_zero ckS_X8_worst).1
theorem fe_X8_worst : ∀ r ∈ P_X8_worst, fetch 178 r.1 = some r.2 := fe_of rfl (chkS_ok _ 0 _ List.drop_zero ckS_X8_worst).2
theorem fe_X8_worst_1 : ∀ r ∈ P_X8_worst_1, fetch 178 r.1 = some r.2 := fun r hr => fe_X8_worst r (List.mem_append_left _ hr)
theorem fe_X8_worst_2 : ∀ r ∈ P_X8_worst_2, fetch 178 r.1 = some r.2 := fun r hr => fe_X8_worst r (List.mem_append_right _ (hr))
theorem ckS_X8_some : chkS M_X8_some P_X8_some 0 M_X8_some.2.2.2.1.data.toList = true := by decide +kernel
theorem ckI_X8_some : P_X8_some.all (fun q => chkI M_X8_some q.1 q.2) = true := List.all_eq_true.mpr (chkS_ok _ 0 _ List.drop_zero ckS_X8_some).1
theorem fe_X8_some : ∀ r ∈ P_X8_some, fetch 179 r.1 = some r.2 := fe_of rfl (chkS_ok _ 0 _ List.drop_zero ckS_X8_some).2
theorem ckS_X8_window : chkS M_X8_window P_X8_window 0 M_X8_window.2.2.2.1.data.toList = true := by decide +kernel
theorem ckI_X8_window : P_X8_window.all (fun q => chkI M_X8_window q.1 q.2) = true := List.all_eq_true.mpr (chkS_ok _ 0 _ List.drop_zero ckS_X8_window).1
theorem fe_X8_window : ∀ r ∈ P_X8_window, fetch 180 r.1 = some r.2 := fe_of rfl (chkS_ok _ 0 _ List.drop_zero ckS_X8_window).2
theorem fe_X8_window_1 : ∀ r ∈ P_X8_window_1, fetch 180 r.1 = some r.2 := fun r hr => fe_X8_window r (List.mem_append_left _ hr)
theorem fe_X8_window_2 : ∀ r ∈ P_X8_window_2, fetch 180 r.1 = some r.2 := fun r hr => fe_X8_window r (List.mem_append_right _ (List.mem_append_left _ hr))
theorem fe_X8_window_3 : ∀ r ∈ P_X8_window_3, fetch 180 r.1 = some r.2 := fun r hr => fe_X8_window r (List.mem_append_right _ (List.mem_append_right _ (hr)))
theorem ckS_X8_pace : chkS M_X8_pace P_X8_pace 0 M_X8_pace.2.2.2.1.data.toList = true := by decide +kernel
theorem ckI_X8_pace : P_X8_pace.all (fun q => chkI M_X8_pace q.1 q.2) = true := List.all_eq_true.mpr (chkS_ok _ 0 _ List.drop_zero ckS_X8_pace).1
theorem fe_X8_pace : ∀ r ∈ P_X8_pace, fetch 181 r.1 = some r.2 := fe_of rfl (chkS_ok _ 0 _ List.drop_zero ckS_X8_pace).2
theorem fe_X8_pace_1 : ∀ r ∈ P_X8_pace_1, fetch 181 r.1 = some r.2 := fun r hr => fe_X8_pace r (List.mem_append_left _ hr)
theorem fe_X8_pace_2 : ∀ r ∈ P_X8_pace_2, fetch 181 r.1 = some r.2 := fun r hr => fe_X8_pace r (List.mem_append_right _ (List.mem_append_left _ hr))
theorem fe_X8_pace_3 : ∀ r ∈ P_X8_pace_3, fetch 181 r.1 = some r.2 := fun r hr => fe_X8_pace r (List.mem_append_right _ (List.mem_append_right _ (hr)))
theorem ckS_X8_rest : chkS M_X8_rest P_X8_rest 0 M_X8_rest.2.2.2.1.data.toList = true := by decide +kernel
theorem ckI_X8_rest : P_X8_rest.all (fun q => chkI M_X8_rest q.1 q.2) = true := List.all_eq_true.mpr (chkS_ok _ 0 _ List.drop_zero ckS_X8_rest).1
theorem fe_X8_rest : ∀ r ∈ P_X8_rest, fetch 182 r.1 = some r.2 := fe_of rfl (chkS_ok _ 0 _ List.drop_zero ckS_X8_rest).2
theorem fe_X8_rest_1 : ∀ r ∈ P_X8_rest_1, fetch 182 r.1 = some r.2 := fun r hr => fe_X8_rest r (List.mem_append_left _ hr)
theorem fe_X8_rest_2 : ∀ r ∈ P_X8_rest_2, fetch 182 r.1 = some r.2 := fun r hr => fe_X8_rest r (List.mem_append_right _ (List.mem_append_left _ hr))
theorem fe_X8_rest_3 : ∀ r ∈ P_X8_rest_3, fetch 182 r.1 = some r.2 := fun r hr => fe_X8_rest r (List.mem_append_right _ (List.mem_append_right _ (hr)))
theorem ckS_X8_dust : chkS M_X8_dust P_X8_dust 0 M_X8_dust.2.2.2.1.data.toList = true := by decide +kernel
theorem ckI_X8_dust : P_X8_dust.all (fun q => chkI M_X8_dust q.1 q.2) = true := List.all_eq_true.mpr (chkS_ok _ 0 _ List.drop_zero ckS_X8_dust).1
theorem fe_X8_dust : ∀ r ∈ P_X8_dust, fetch 183 r.1 = some r.2 := fe_of rfl (chkS_ok _ 0 _ List.drop_zero ckS_X8_dust).2
theorem fe_X8_dust_1 : ∀ r ∈ P_X8_dust_1, fetch 183 r.1 = some r.2 := fun r hr => fe_X8_dust r (List.mem_append_left _ hr)
theorem fe_X8_dust_2 : ∀ r ∈ P_X8_dust_2, fetch 183 r.1 = some r.2 := fun r hr => fe_X8_dust r (List.mem_append_right _ (hr))
theorem ckS_X8_doublings : chkS M_X8_doublings P_X8_doublings 0 M_X8_doublings.2.2.2.1.data.toList = true := by decide +kernel
theorem ckI_X8_doublings : P_X8_doublings.all (fun q => chkI M_X8_doublings q.1 q.2) = true := List.all_eq_true.mpr (chkS_ok _ 0 _ List.drop_zero ckS_X8_doublings).1
theorem fe_X8_doublings : ∀ r ∈ P_X8_doublings, fetch 184 r.1 = some r.2 := fe_of rfl (chkS_ok _ 0 _ List.drop_zero ckS_X8_doublings).2
theorem fe_X8_doublings_1 : ∀ r ∈ P_X8_doublings_1, fetch 184 r.1 = some r.2 := fun r hr => fe_X8_doublings r (List.mem_append_left _ hr)
theorem fe_X8_doublings_2 : ∀ r ∈ P_X8_doublings_2, fetch 184 r.1 = some r.2 := fun r hr => fe_X8_doublings r (List.mem_append_right _ (hr))
theorem ckS_X8_sheetWrong : chkS M_X8_sheetWrong P_X8_sheetWrong 0 M_X8_sheetWrong.2.2.2.1.data.toList = true := by decide +kernel
theorem ckI_X8_sheetWrong : P_X8_sheetWrong.all (fun q => chkI M_X8_sheetWrong q.1 q.2) = true := List.all_eq_true.mpr (chkS_ok _ 0 _ List.drop_zero ckS_X8_sheetWrong).1
theorem fe_X8_sheetWrong : ∀ r ∈ P_X8_sheetWrong, fetch 185 r.1 = some r.2 := fe_of rfl (chkS_ok _ 0 _ List.drop_zero ckS_X8_sheetWrong).2
theorem ckS_X8_offFrom : chkS M_X8_offFrom P_X8_offFrom 0 M_X8_offFrom.2.2.2.1.data.toList = true := by decide +kernel
theorem ckI_X8_offFrom : P_X8_offFrom.all (fun q => chkI M_X8_offFrom q.1 q.2) = true := List.all_eq_true.mpr (chkS_ok _ 0 _ List.drop_zero ckS_X8_offFrom).1
theorem fe_X8_offFrom : ∀ r ∈ P_X8_offFrom, fetch 186 r.1 = some r.2 := fe_of rfl (chkS_ok _ 0 _ List.drop_zero ckS_X8_offFrom).2
theorem fe_X8_offFrom_1 : ∀ r ∈ P_X8_offFrom_1, fetch 186 r.1 = some r.2 := fun r hr => fe_X8_offFrom r (List.mem_append_left _ hr)
theorem fe_X8_offFrom_2 : ∀ r ∈ P_X8_offFrom_2, fetch 186 r.1 = some r.2 := fun r hr => fe_X8_offFrom r (List.mem_append_right _ (hr))
theorem ckS_X8_judge : chkS M_X8_judge P_X8_judge 0 M_X8_judge.2.2.2.1.data.toList = true := by decide +kernel
theorem ckI_X8_judge : P_X8_judge.all (fun q => chkI M_X8_judge q.1 q.2) = true := List.all_eq_true.mpr (chkS_ok _ 0 _ List.drop_zero ckS_X8_judge).1
theorem fe_X8_judge : ∀ r ∈ P_X8_judge, fetch 187 r.1 = some r.2 := fe_of rfl (chkS_ok _ 0 _ List.drop_zero ckS_X8_judge).2
theorem ckS_X8_film : chkS M_X8_film P_X8_film 0 M_X8_film.2.2.2.1.data.toList = true := by decide +kernel
theorem ckI_X8_film : P_X8_film.all (fun q => chkI M_X8_film q.1 q.2) = true := List.all_eq_true.mpr (chkS_ok _ 0 _ List.drop_zero ckS_X8_film).1
theorem fe_X8_film : ∀ r ∈ P_X8_film, fetch 188 r.1 = some r.2 := fe_of rfl (chkS_ok _ 0 _ List.drop_zero ckS_X8_film).2
theorem fe_X8_film_1 : ∀ r ∈ P_X8_film_1, fetch 188 r.1 = some r.2 := fun r hr => fe_X8_film r (List.mem_append_left _ hr)
theorem fe_X8_film_2 : ∀ r ∈ P_X8_film_2, fetch 188 r.1 = some r.2 := fun r hr => fe_X8_film r (List.mem_append_right _ (List.mem_append_left _ hr))
theorem fe_X8_film_3 : ∀ r ∈ P_X8_film_3, fetch 188 r.1 = some r.2 := fun r hr => fe_X8_film r (List.mem_append_right _ (List.mem_append_right _ (hr)))
theorem ckS_X8_serves : chkS M_X8_serves P_X8_serves 0 M_X8_serves.2.2.2.1.data.toList = true := by decide +kernel
theorem ckI_X8_serves : P_X8_serves.all (fun q => chkI M_X8_serves q.1 q.2) = true := List.all_eq_true.mpr (chkS_ok _ 0 _ List.drop_zero ckS_X8_serves).1
theorem fe_X8_serves : ∀ r ∈ P_X8_serves, fetch 189 r.1 = some r.2 := fe_of rfl (chkS_ok _ 0 _ List.drop_zero ckS_X8_serves).2
theorem fe_X8_serves_1 : ∀ r ∈ P_X8_serves_1, fetch 189 r.1 = some r.2 := fun r hr => fe_X8_serves r (List.mem_append_left _ hr)
theorem fe_X8_serves_2 : ∀ r ∈ P_X8_serves_2, fetch 189 r.1 = some r.2 := fun r hr => fe_X8_serves r (List.mem_append_right _ (List.mem_append_left _ hr))
theorem fe_X8_serves_3 : ∀ r ∈ P_X8_serves_3, fetch 189 r.1 = some r.2 := fun r hr => fe_X8_serves r (List.mem_append_right _ (List.mem_append_right _ (hr)))
theorem ckS_X8_which : chkS M_X8_which P_X8_which 0 M_X8_which.2.2.2.1.data.toList = true := by decide +kernel
theorem ckI_X8_which : P_X8_which.all (fun q => chkI M_X8_which q.1 q.2) = true := List.all_eq_true.mpr (chkS_ok _ 0 _ List.drop_zero ckS_X8_which).1
theorem fe_X8_which : ∀ r ∈ P_X8_which, fetch 190 r.1 = some r.2 := fe_of rfl (chkS_ok _ 0 _ List.drop_zero ckS_X8_which).2
theorem fe_X8_which_1 : ∀ r ∈ P_X8_which_1, fetch 190 r.1 = some r.2 := fun r hr => fe_X8_which r (List.mem_append_left _ hr)
theorem fe_X8_which_2 : ∀ r ∈ P_X8_which_2, fetch 190 r.1 = some r.2 := fun r hr => fe_X8_which r (List.mem_append_right _ (List.mem_append_left _ hr))
theorem fe_X8_which_3 : ∀ r ∈ P_X8_which_3, fetch 190 r.1 = some r.2 := fun r hr => fe_X8_which r (List.mem_append_right _ (List.mem_append_right _ (hr)))
theorem ckS_X8_fault : chkS M_X8_fault P_X8_fault 0 M_X8_fault.2.2.2.1.data.toList = true := by decide +kernel
theorem ckI_X8_fault : P_X8_fault.all (fun q => chkI M_X8_fault q.1 q.2) = true := List.all_eq_true.mpr (chkS_ok _ 0 _ List.drop_zero ckS_X8_fault).1
theorem fe_X8_fault : ∀ r ∈ P_X8_fault, fetch 191 r.1 = some r.2 := fe_of rfl (chkS_ok _ 0 _ List.drop_zero ckS_X8_fault).2
theorem fe_X8_fault_1 : ∀ r ∈ P_X8_fault_1, fetch 191 r.1 = some r.2 := fun r hr => fe_X8_fault r (List.mem_append_left _ hr)
theorem fe_X8_fault_2 : ∀ r ∈ P_X8_fault_2, fetch 191 r.1 = some r.2 := fun r hr => fe_X8_fault r (List.mem_append_right _ (hr))
theorem ckS_X8_uneven : chkS M_X8_uneven P_X8_uneven 0 M_X8_uneven.2.2.2.1.data.toList = true := by decide +kernel
theorem ckI_X8_uneven : P_X8_uneven.all (fun q => chkI M_X8_uneven q.1 q.2) = true := List.all_eq_true.mpr (chkS_ok _ 0 _ List.drop_zero ckS_X8_uneven).1
theorem fe_X8_uneven : ∀ r ∈ P_X8_uneven, fetch 192 r.1 = some r.2 := fe_of rfl (chkS_ok _ 0 _ List.drop_zero ckS_X8_uneven).2
theorem fe_X8_uneven_1 : ∀ r ∈ P_X8_uneven_1, fetch 192 r.1 = some r.2 := fun r hr => fe_X8_uneven r (List.mem_append_left _ hr)
theorem fe_X8_uneven_2 : ∀ r ∈ P_X8_uneven_2, fetch 192 r.1 = some r.2 := fun r hr => fe_X8_uneven r (List.mem_append_right _ (List.mem_append_left _ hr))
theorem fe_X8_uneven_3 : ∀ r ∈ P_X8_uneven_3, fetch 192 r.1 = some r.2 := fun r hr => fe_X8_uneven r (List.mem_append_right _ (List.mem_append_right _ (hr)))
theorem ckS_X8_cooked : chkS M_X8_cooked P_X8_cooked 0 M_X8_cooked.2.2.2.1.data.toList = true := by decide +kernel
theorem ckI_X8_cooked : P_X8_cooked.all (fun q => chkI M_X8_cooked q.1 q.2) = true := List.all_eq_true.mpr (chkS_ok _ 0 _ List.drop_zero ckS_X8_cooked).1
theorem fe_X8_cooked : ∀ r ∈ P_X8_cooked, fetch 193 r.1 = some r.2 := fe_of rfl (chkS_ok _ 0 _ List.drop_zero ckS_X8_cooked).2
theorem fe_X8_cooked_1 : ∀ r ∈ P_X8_cooked_1, fetch 193 r.1 = some r.2 := fun r hr => fe_X8_cooked r (List.mem_append_left _ hr)
theorem fe_X8_cooked_2 : ∀ r ∈ P_X8_cooked_2, fetch 193 r.1 = some r.2 := fun r hr => fe_X8_cooked r (List.mem_append_right _ (hr))
theorem ckS_X8_cooks : chkS M_X8_cooks P_X8_cooks 0 M_X8_cooks.2.2.2.1.data.toList = true := by decide +kernel
theorem ckI_X8_cooks : P_X8_cooks.all (fun q => chkI M_X8_cooks q.1 q.2) = true := List.all_eq_true.mpr (chkS_ok _ 0 _ List.drop_zero ckS_X8_cooks).1
theorem fe_X8_cooks : ∀ r ∈ P_X8_cooks, fetch 194 r.1 = some r.2 := fe_of rfl (chkS_ok _ 0 _ List.drop_zero ckS_X8_cooks).2
theorem ckS_X8_pot : chkS M_X8_pot P_X8_pot 0 M_X8_pot.2.2.2.1.data.toList = true := by decide +kernel
theorem ckI_X8_pot : P_X8_pot.all (fun q => chkI M_X8_pot q.1 q.2) = true := List.all_eq_true.mpr (chkS_ok _ 0 _ List.drop_zero ckS_X8_pot).1
theorem fe_X8_pot : ∀ r ∈ P_X8_pot, fetch 195 r.1 = some r.2 := fe_of rfl (chkS_ok _ 0 _ List.drop_zero ckS_X8_pot).2
theorem fe_X8_pot_1 : ∀ r ∈ P_X8_pot_1, fetch 195 r.1 = some r.2 := fun r hr => fe_X8_pot r (List.mem_append_left _ hr)
theorem fe_X8_pot_2 : ∀ r ∈ P_X8_pot_2, fetch 195 r.1 = some r.2 := fun r hr => fe_X8_pot r (List.mem_append_right _ (hr))
theorem ckS_X8_isSpot : chkS M_X8_isSpot P_X8_isSpot 0 M_X8_isSpot.2.2.2.1.data.toList = true := by decide +kernel
theorem ckI_X8_isSpot : P_X8_isSpot.all (fun q => chkI M_X8_isSpot q.1 q.2) = true := List.all_eq_true.mpr (chkS_ok _ 0 _ List.drop_zero ckS_X8_isSpot).1
theorem fe_X8_isSpot : ∀ r ∈ P_X8_isSpot, fetch 196 r.1 = some r.2 := fe_of rfl (chkS_ok _ 0 _ List.drop_zero ckS_X8_isSpot).2
theorem ckS_X8_doubledOnce : chkS M_X8_doubledOnce P_X8_doubledOnce 0 M_X8_doubledOnce.2.2.2.1.data.toList = true := by decide +kernel
theorem ckI_X8_doubledOnce : P_X8_doubledOnce.all (fun q => chkI M_X8_doubledOnce q.1 q.2) = true := List.all_eq_true.mpr (chkS_ok _ 0 _ List.drop_zero ckS_X8_doubledOnce).1
theorem fe_X8_doubledOnce : ∀ r ∈ P_X8_doubledOnce, fetch 197 r.1 = some r.2 := fe_of rfl (chkS_ok _ 0 _ List.drop_zero ckS_X8_doubledOnce).2
theorem ckS_X8_behind : chkS M_X8_behind P_X8_behind 0 M_X8_behind.2.2.2.1.data.toList = true := by decide +kernel
theorem ckI_X8_behind : P_X8_behind.all (fun q => chkI M_X8_behind q.1 q.2) = true := List.all_eq_true.mpr (chkS_ok _ 0 _ List.drop_zero ckS_X8_behind).1
theorem fe_X8_behind : ∀ r ∈ P_X8_behind, fetch 198 r.1 = some r.2 := fe_of rfl (chkS_ok _ 0 _ List.drop_zero ckS_X8_behind).2
theorem ckS_X8_place : chkS M_X8_place P_X8_place 0 M_X8_place.2.2.2.1.data.toList = true := by decide +kernel
theorem ckI_X8_place : P_X8_place.all (fun q => chkI M_X8_place q.1 q.2) = true := List.all_eq_true.mpr (chkS_ok _ 0 _ List.drop_zero ckS_X8_place).1
theorem fe_X8_place : ∀ r ∈ P_X8_place, fetch 199 r.1 = some r.2 := fe_of rfl (chkS_ok _ 0 _ List.drop_zero ckS_X8_place).2
theorem ckS_X8_apart : chkS M_X8_apart P_X8_apart 0 M_X8_apart.2.2.2.1.data.toList = true := by decide +kernel
theorem ckI_X8_apart : P_X8_apart.all (fun q => chkI M_X8_apart q.1 q.2) = true := List.all_eq_true.mpr (chkS_ok _ 0 _ List.drop_zero ckS_X8_apart).1
theorem fe_X8_apart : ∀ r ∈ P_X8_apart, fetch 200 r.1 = some r.2 := fe_of rfl (chkS_ok _ 0 _ List.drop_zero ckS_X8_apart).2
theorem ckS_X8_parted : chkS M_X8_parted P_X8_parted 0 M_X8_parted.2.2.2.1.data.toList = true := by decide +kernel
theorem ckI_X8_parted : P_X8_parted.all (fun q => chkI M_X8_parted q.1 q.2) = true := List.all_eq_true.mpr (chkS_ok _ 0 _ List.drop_zero ckS_X8_parted).1
theorem fe_X8_parted : ∀ r ∈ P_X8_parted, fetch 201 r.1 = some r.2 := fe_of rfl (chkS_ok _ 0 _ List.drop_zero ckS_X8_parted).2
theorem fe_X8_parted_1 : ∀ r ∈ P_X8_parted_1, fetch 201 r.1 = some r.2 := fun r hr => fe_X8_parted r (List.mem_append_left _ hr)
theorem fe_X8_parted_2 : ∀ r ∈ P_X8_parted_2, fetch 201 r.1 = some r.2 := fun r hr => fe_X8_parted r (List.mem_append_right _ (hr))
theorem ckS_X8_round : chkS M_X8_round P_X8_round 0 M_X8_round.2.2.2.1.data.toList = true := by decide +kernel
theorem ckI_X8_round : P_X8_round.all (fun q => chkI M_X8_round q.1 q.2) = true := List.all_eq_true.mpr (chkS_ok _ 0 _ List.drop_zero ckS_X8_round).1
theorem fe_X8_round : ∀ r ∈ P_X8_round, fetch 202 r.1 = some r.2 := fe_of rfl (chkS_ok _ 0 _ List.drop_zero ckS_X8_round).2
theorem ckS_X8_colours : chkS M_X8_colours P_X8_colours 0 M_X8_colours.2.2.2.1.data.toList = true := by decide +kernel
theorem ckI_X8_colours : P_X8_colours.all (fun q => chkI M_X8_colours q.1 q.2) = true := List.all_eq_true.mpr (chkS_ok _ 0 _ List.drop_zero ckS_X8_colours).1
theorem fe_X8_colours : ∀ r ∈ P_X8_colours, fetch 203 r.1 = some r.2 := fe_of rfl (chkS_ok _ 0 _ List.drop_zero ckS_X8_colours).2
theorem fe_X8_colours_1 : ∀ r ∈ P_X8_colours_1, fetch 203 r.1 = some r.2 := fun r hr => fe_X8_colours r (List.mem_append_left _ hr)
theorem fe_X8_colours_2 : ∀ r ∈ P_X8_colours_2, fetch 203 r.1 = some r.2 := fun r hr => fe_X8_colours r (List.mem_append_right _ (List.mem_append_left _ hr))
theorem fe_X8_colours_3 : ∀ r ∈ P_X8_colours_3, fetch 203 r.1 = some r.2 := fun r hr => fe_X8_colours r (List.mem_append_right _ (List.mem_append_right _ (List.mem_append_left _ hr)))
theorem fe_X8_colours_4 : ∀ r ∈ P_X8_colours_4, fetch 203 r.1 = some r.2 := fun r hr => fe_X8_colours r (List.mem_append_right _ (List.mem_append_right _ (List.mem_append_right _ (List.mem_append_left _ hr))))
theorem fe_X8_colours_5 : ∀ r ∈ P_X8_colours_5, fetch 203 r.1 = some r.2 := fun r hr => fe_X8_colours r (List.mem_append_right _ (List.mem_append_right _ (List.mem_append_right _ (List.mem_append_right _ (List.mem_append_left _ hr)))))
theorem fe_X8_colours_6 : ∀ r ∈ P_X8_colours_6, fetch 203 r.1 = some r.2 := fun r hr => fe_X8_colours r (List.mem_append_right _ (List.mem_append_right _ (List.mem_append_right _ (List.mem_append_right _ (List.mem_append_right _ (List.mem_append_left _ hr))))))
theorem fe_X8_colours_7 : ∀ r ∈ P_X8_colours_7, fetch 203 r.1 = some r.2 := fun r hr => fe_X8_colours r (List.mem_append_right _ (List.mem_append_right _ (List.mem_append_right _ (List.mem_append_right _ (List.mem_append_right _ (List.mem_append_right _ (hr)))))))
theorem ckS_X8_lowest : chkS M_X8_lowest P_X8_lowest 0 M_X8_lowest.2.2.2.1.data.toList = true := by decide +kernel
theorem ckI_X8_lowest : P_X8_lowest.all (fun q => chkI M_X8_lowest q.1 q.2) = true := List.all_eq_true.mpr (chkS_ok _ 0 _ List.drop_zero ckS_X8_lowest).1
theorem fe_X8_lowest : ∀ r ∈ P_X8_lowest, fetch 204 r.1 = some r.2 := fe_of rfl (chkS_ok _ 0 _ List.drop_zero ckS_X8_lowest).2
theorem fe_X8_lowest_1 : ∀ r ∈ P_X8_lowest_1, fetch 204 r.1 = some r.2 := fun r hr => fe_X8_lowest r (List.mem_append_left _ hr)
theorem fe_X8_lowest_2 : ∀ r ∈ P_X8_lowest_2, fetch 204 r.1 = some r.2 := fun r hr => fe_X8_lowest r (List.mem_append_right _ (hr))
theorem ckS_X8_power : chkS M_X8_power P_X8_power 0 M_X8_power.2.2.2.1.data.toList = true := by decide +kernel
theorem ckI_X8_power : P_X8_power.all (fun q => chkI M_X8_power q.1 q.2) = true := List.all_eq_true.mpr (chkS_ok _ 0 _ List.drop_zero ckS_X8_power).1
theorem fe_X8_power : ∀ r ∈ P_X8_power, fetch 205 r.1 = some r.2 := fe_of rfl (chkS_ok _ 0 _ List.drop_zero ckS_X8_power).2
theorem ckS_X8_thin : chkS M_X8_thin P_X8_thin 0 M_X8_thin.2.2.2.1.data.toList = true := by decide +kernel
theorem ckI_X8_thin : P_X8_thin.all (fun q => chkI M_X8_thin q.1 q.2) = true := List.all_eq_true.mpr (chkS_ok _ 0 _ List.drop_zero ckS_X8_thin).1
theorem fe_X8_thin : ∀ r ∈ P_X8_thin, fetch 206 r.1 = some r.2 := fe_of rfl (chkS_ok _ 0 _ List.drop_zero ckS_X8_thin).2
theorem ckS_X8_areOdds : chkS M_X8_areOdds P_X8_areOdds 0 M_X8_areOdds.2.2.2.1.data.toList = true := by decide +kernel
theorem ckI_X8_areOdds : P_X8_areOdds.all (fun q => chkI M_X8_areOdds q.1 q.2) = true := List.all_eq_true.mpr (chkS_ok _ 0 _ List.drop_zero ckS_X8_areOdds).1
theorem fe_X8_areOdds : ∀ r ∈ P_X8_areOdds, fetch 207 r.1 = some r.2 := fe_of rfl (chkS_ok _ 0 _ List.drop_zero ckS_X8_areOdds).2
theorem ckS_X8_odds : chkS M_X8_odds P_X8_odds 0 M_X8_odds.2.2.2.1.data.toList = true := by decide +kernel
theorem ckI_X8_odds : P_X8_odds.all (fun q => chkI M_X8_odds q.1 q.2) = true := List.all_eq_true.mpr (chkS_ok _ 0 _ List.drop_zero ckS_X8_odds).1
theorem fe_X8_odds : ∀ r ∈ P_X8_odds, fetch 208 r.1 = some r.2 := fe_of rfl (chkS_ok _ 0 _ List.drop_zero ckS_X8_odds).2
theorem ckS_X8_record : chkS M_X8_record P_X8_record 0 M_X8_record.2.2.2.1.data.toList = true := by decide +kernel
theorem ckI_X8_record : P_X8_record.all (fun q => chkI M_X8_record q.1 q.2) = true := List.all_eq_true.mpr (chkS_ok _ 0 _ List.drop_zero ckS_X8_record).1
theorem fe_X8_record : ∀ r ∈ P_X8_record, fetch 209 r.1 = some r.2 := fe_of rfl (chkS_ok _ 0 _ List.drop_zero ckS_X8_record).2
theorem fe_X8_record_1 : ∀ r ∈ P_X8_record_1, fetch 209 r.1 = some r.2 := fun r hr => fe_X8_record r (List.mem_append_left _ hr)
theorem fe_X8_record_2 : ∀ r ∈ P_X8_record_2, fetch 209 r.1 = some r.2 := fun r hr => fe_X8_record r (List.mem_append_right _ (hr))
theorem ckS_X8_drawn : chkS M_X8_drawn P_X8_drawn 0 M_X8_drawn.2.2.2.1.data.toList = true := by decide +kernel
theorem ckI_X8_drawn : P_X8_drawn.all (fun q => chkI M_X8_drawn q.1 q.2) = true := List.all_eq_true.mpr (chkS_ok _ 0 _ List.drop_zero ckS_X8_drawn).1
theorem fe_X8_drawn : ∀ r ∈ P_X8_drawn, fetch 210 r.1 = some r.2 := fe_of rfl (chkS_ok _ 0 _ List.drop_zero ckS_X8_drawn).2
theorem fe_X8_drawn_1 : ∀ r ∈ P_X8_drawn_1, fetch 210 r.1 = some r.2 := fun r hr => fe_X8_drawn r (List.mem_append_left _ hr)
theorem fe_X8_drawn_2 : ∀ r ∈ P_X8_drawn_2, fetch 210 r.1 = some r.2 := fun r hr => fe_X8_drawn r (List.mem_append_right _ (hr))
theorem ckS_X8_image : chkS M_X8_image P_X8_image 0 M_X8_image.2.2.2.1.data.toList = true := by decide +kernel
theorem ckI_X8_image : P_X8_image.all (fun q => chkI M_X8_image q.1 q.2) = true := List.all_eq_true.mpr (chkS_ok _ 0 _ List.drop_zero ckS_X8_image).1
theorem fe_X8_image : ∀ r ∈ P_X8_image, fetch 211 r.1 = some r.2 := fe_of rfl (chkS_ok _ 0 _ List.drop_zero ckS_X8_image).2
theorem fe_X8_image_1 : ∀ r ∈ P_X8_image_1, fetch 211 r.1 = some r.2 := fun r hr => fe_X8_image r (List.mem_append_left _ hr)
theorem fe_X8_image_2 : ∀ r ∈ P_X8_image_2, fetch 211 r.1 = some r.2 := fun r hr => fe_X8_image r (List.mem_append_right _ (hr))
theorem ckS_X8_back : chkS M_X8_back P_X8_back 0 M_X8_back.2.2.2.1.data.toList = true := by decide +kernel
theorem ckI_X8_back : P_X8_back.all (fun q => chkI M_X8_back q.1 q.2) = true := List.all_eq_true.mpr (chkS_ok _ 0 _ List.drop_zero ckS_X8_back).1
theorem fe_X8_back : ∀ r ∈ P_X8_back, fetch 212 r.1 = some r.2 := fe_of rfl (chkS_ok _ 0 _ List.drop_zero ckS_X8_back).2
theorem fe_X8_back_1 : ∀ r ∈ P_X8_back_1, fetch 212 r.1 = some r.2 := fun r hr => fe_X8_back r (List.mem_append_left _ hr)
theorem fe_X8_back_2 : ∀ r ∈ P_X8_back_2, fetch 212 r.1 = some r.2 := fun r hr => fe_X8_back r (List.mem_append_right _ (hr))
theorem ckS_X8_sheet : chkS M_X8_sheet P_X8_sheet 0 M_X8_sheet.2.2.2.1.data.toList = true := by decide +kernel
theorem ckI_X8_sheet : P_X8_sheet.all (fun q => chkI M_X8_sheet q.1 q.2) = true := List.all_eq_true.mpr (chkS_ok _ 0 _ List.drop_zero ckS_X8_sheet).1
theorem fe_X8_sheet : ∀ r ∈ P_X8_sheet, fetch 213 r.1 = some r.2 := fe_of rfl (chkS_ok _ 0 _ List.drop_zero ckS_X8_sheet).2
theorem fe_X8_sheet_1 : ∀ r ∈ P_X8_sheet_1, fetch 213 r.1 = some r.2 := fun r hr => fe_X8_sheet r (List.mem_append_left _ hr)
theorem fe_X8_sheet_2 : ∀ r ∈ P_X8_sheet_2, fetch 213 r.1 = some r.2 := fun r hr => fe_X8_sheet r (List.mem_append_right _ (List.mem_append_left _ hr))
theorem fe_X8_sheet_3 : ∀ r ∈ P_X8_sheet_3, fetch 213 r.1 = some r.2 := fun r hr => fe_X8_sheet r (List.mem_append_right _ (List.mem_append_right _ (hr)))
theorem ckS_X8_cell : chkS M_X8_cell P_X8_cell 0 M_X8_cell.2.2.2.1.data.toList = true := by decide +kernel
theorem ckI_X8_cell : P_X8_cell.all (fun q => chkI M_X8_cell q.1 q.2) = true := List.all_eq_true.mpr (chkS_ok _ 0 _ List.drop_zero ckS_X8_cell).1
theorem fe_X8_cell : ∀ r ∈ P_X8_cell, fetch 214 r.1 = some r.2 := fe_of rfl (chkS_ok _ 0 _ List.drop_zero ckS_X8_cell).2
theorem fe_X8_cell_1 : ∀ r ∈ P_X8_cell_1, fetch 214 r.1 = some r.2 := fun r hr => fe_X8_cell r (List.mem_append_left _ hr)
theorem fe_X8_cell_2 : ∀ r ∈ P_X8_cell_2, fetch 214 r.1 = some r.2 := fun r hr => fe_X8_cell r (List.mem_append_right _ (List.mem_append_left _ hr))
theorem fe_X8_cell_3 : ∀ r ∈ P_X8_cell_3, fetch 214 r.1 = some r.2 := fun r hr => fe_X8_cell r (List.mem_append_right _ (List.mem_append_right _ (hr)))
theorem ckS_X8_copy : chkS M_X8_copy P_X8_copy 0 M_X8_copy.2.2.2.1.data.toList = true := by decide +kernel
theorem ckI_X8_copy : P_X8_copy.all (fun q => chkI M_X8_copy q.1 q.2) = true := List.all_eq_true.mpr (chkS_ok _ 0 _ List.drop_zero ckS_X8_copy).1
theorem fe_X8_copy : ∀ r ∈ P_X8_copy, fetch 215 r.1 = some r.2 := fe_of rfl (chkS_ok _ 0 _ List.drop_zero ckS_X8_copy).2
theorem fe_X8_copy_1 : ∀ r ∈ P_X8_copy_1, fetch 215 r.1 = some r.2 := fun r hr => fe_X8_copy r (List.mem_append_left _ hr)
theorem fe_X8_copy_2 : ∀ r ∈ P_X8_copy_2, fetch 215 r.1 = some r.2 := fun r hr => fe_X8_copy r (List.mem_append_right _ (List.mem_append_left _ hr))
theorem fe_X8_copy_3 : ∀ r ∈ P_X8_copy_3, fetch 215 r.1 = some r.2 := fun r hr => fe_X8_copy r (List.mem_append_right _ (List.mem_append_right _ (List.mem_append_left _ hr)))
theorem fe_X8_copy_4 : ∀ r ∈ P_X8_copy_4, fetch 215 r.1 = some r.2 := fun r hr => fe_X8_copy r (List.mem_append_right _ (List.mem_append_right _ (List.mem_append_right _ (List.mem_append_left _ hr))))
theorem fe_X8_copy_5 : ∀ r ∈ P_X8_copy_5, fetch 215 r.1 = some r.2 := fun r hr => fe_X8_copy r (List.mem_append_right _ (List.mem_append_right _ (List.mem_append_right _ (List.mem_append_right _ (hr)))))
theorem ckS_X8_stepsBy : chkS M_X8_stepsBy P_X8_stepsBy 0 M_X8_stepsBy.2.2.2.1.data.toList = true := by decide +kernel
theorem ckI_X8_stepsBy : P_X8_stepsBy.all (fun q => chkI M_X8_stepsBy q.1 q.2) = true := List.all_eq_true.mpr (chkS_ok _ 0 _ List.drop_zero ckS_X8_stepsBy).1
theorem fe_X8_stepsBy : ∀ r ∈ P_X8_stepsBy, fetch 216 r.1 = some r.2 := fe_of rfl (chkS_ok _ 0 _ List.drop_zero ckS_X8_stepsBy).2
theorem fe_X8_stepsBy_1 : ∀ r ∈ P_X8_stepsBy_1, fetch 216 r.1 = some r.2 := fun r hr => fe_X8_stepsBy r (List.mem_append_left _ hr)
theorem fe_X8_stepsBy_2 : ∀ r ∈ P_X8_stepsBy_2, fetch 216 r.1 = some r.2 := fun r hr => fe_X8_stepsBy r (List.mem_append_right _ (List.mem_append_left _ hr))
theorem fe_X8_stepsBy_3 : ∀ r ∈ P_X8_stepsBy_3, fetch 216 r.1 = some r.2 := fun r hr => fe_X8_stepsBy r (List.mem_append_right _ (List.mem_append_right _ (List.mem_append_left _ hr)))
theorem fe_X8_stepsBy_4 : ∀ r ∈ P_X8_stepsBy_4, fetch 216 r.1 = some r.2 := fun r hr => fe_X8_stepsBy r (List.mem_append_right _ (List.mem_append_right _ (List.mem_append_right _ (hr))))
theorem ckS_X8_isUnder : chkS M_X8_isUnder P_X8_isUnder 0 M_X8_isUnder.2.2.2.1.data.toList = true := by decide +kernel
theorem ckI_X8_isUnder : P_X8_isUnder.all (fun q => chkI M_X8_isUnder q.1 q.2) = true := List.all_eq_true.mpr (chkS_ok _ 0 _ List.drop_zero ckS_X8_isUnder).1
theorem fe_X8_isUnder : ∀ r ∈ P_X8_isUnder, fetch 217 r.1 = some r.2 := fe_of rfl (chkS_ok _ 0 _ List.drop_zero ckS_X8_isUnder).2
theorem ckS_X8_taken : chkS M_X8_taken P_X8_taken 0 M_X8_taken.2.2.2.1.data.toList = true := by decide +kernel
theorem ckI_X8_taken : P_X8_taken.all (fun q => chkI M_X8_taken q.1 q.2) = true := List.all_eq_true.mpr (chkS_ok _ 0 _ List.drop_zero ckS_X8_taken).1
theorem fe_X8_taken : ∀ r ∈ P_X8_taken, fetch 218 r.1 = some r.2 := fe_of rfl (chkS_ok _ 0 _ List.drop_zero ckS_X8_taken).2
theorem fe_X8_taken_1 : ∀ r ∈ P_X8_taken_1, fetch 218 r.1 = some r.2 := fun r hr => fe_X8_taken r (List.mem_append_left _ hr)
theorem fe_X8_taken_2 : ∀ r ∈ P_X8_taken_2, fetch 218 r.1 = some r.2 := fun r hr => fe_X8_taken r (List.mem_append_right _ (List.mem_append_left _ hr))
theorem fe_X8_taken_3 : ∀ r ∈ P_X8_taken_3, fetch 218 r.1 = some r.2 := fun r hr => fe_X8_taken r (List.mem_append_right _ (List.mem_append_right _ (hr)))
theorem ckS_J0_length_8abf5 : chkS M_J0_length_8abf5 P_J0_length_8abf5 0 M_J0_length_8abf5.2.2.2.1.data.toList = true := by decide +kernel
theorem ckI_J0_length_8abf5 : P_J0_length_8abf5.all (fun q => chkI M_J0_length_8abf5 q.1 q.2) = true := List.all_eq_true.mpr (chkS_ok _ 0 _ List.drop_zero ckS_J0_length_8abf5).1
theorem fe_J0_length_8abf5 : ∀ r ∈ P_J0_length_8abf5, fetch 219 r.1 = some r.2 := fe_of rfl (chkS_ok _ 0 _ List.drop_zero ckS_J0_length_8abf5).2
theorem ckS_J0_charAt_5068e : chkS M_J0_charAt_5068e P_J0_charAt_5068e 0 M_J0_charAt_5068e.2.2.2.1.data.toList = true := by decide +kernel
theorem ckI_J0_charAt_5068e : P_J0_charAt_5068e.all (fun q => chkI M_J0_charAt_5068e q.1 q.2) = true := List.all_eq_true.mpr (chkS_ok _ 0 _ List.drop_zero ckS_J0_charAt_5068e).1
theorem fe_J0_charAt_5068e : ∀ r ∈ P_J0_charAt_5068e, fetch 220 r.1 = some r.2 := fe_of rfl (chkS_ok _ 0 _ List.drop_zero ckS_J0_charAt_5068e).2
theorem ckS_J0_indexOf_0f7a4 : chkS M_J0_indexOf_0f7a4 P_J0_indexOf_0f7a4 0 M_J0_indexOf_0f7a4.2.2.2.1.data.toList = true := by decide +kernel
theorem ckI_J0_indexOf_0f7a4 : P_J0_indexOf_0f7a4.all (fun q => chkI M_J0_indexOf_0f7a4 q.1 q.2) = true := List.all_eq_true.mpr (chkS_ok _ 0 _ List.drop_zero ckS_J0_indexOf_0f7a4).1
theorem fe_J0_indexOf_0f7a4 : ∀ r ∈ P_J0_indexOf_0f7a4, fetch 221 r.1 = some r.2 := fe_of rfl (chkS_ok _ 0 _ List.drop_zero ckS_J0_indexOf_0f7a4).2
theorem ckS_J0_indexOf_7cf53 : chkS M_J0_indexOf_7cf53 P_J0_indexOf_7cf53 0 M_J0_indexOf_7cf53.2.2.2.1.data.toList = true := by decide +kernel
theorem ckI_J0_indexOf_7cf53 : P_J0_indexOf_7cf53.all (fun q => chkI M_J0_indexOf_7cf53 q.1 q.2) = true := List.all_eq_true.mpr (chkS_ok _ 0 _ List.drop_zero ckS_J0_indexOf_7cf53).1
theorem fe_J0_indexOf_7cf53 : ∀ r ∈ P_J0_indexOf_7cf53, fetch 222 r.1 = some r.2 := fe_of rfl (chkS_ok _ 0 _ List.drop_zero ckS_J0_indexOf_7cf53).2
theorem ckS_J0_coder_7d493 : chkS M_J0_coder_7d493 P_J0_coder_7d493 0 M_J0_coder_7d493.2.2.2.1.data.toList = true := by decide +kernel
theorem ckI_J0_coder_7d493 : P_J0_coder_7d493.all (fun q => chkI M_J0_coder_7d493 q.1 q.2) = true := List.all_eq_true.mpr (chkS_ok _ 0 _ List.drop_zero ckS_J0_coder_7d493).1
theorem fe_J0_coder_7d493 : ∀ r ∈ P_J0_coder_7d493, fetch 223 r.1 = some r.2 := fe_of rfl (chkS_ok _ 0 _ List.drop_zero ckS_J0_coder_7d493).2
theorem ckS_J0_isLatin1_aae02 : chkS M_J0_isLatin1_aae02 P_J0_isLatin1_aae02 0 M_J0_isLatin1_aae02.2.2.2.1.data.toList = true := by decide +kernel
theorem ckI_J0_isLatin1_aae02 : P_J0_isLatin1_aae02.all (fun q => chkI M_J0_isLatin1_aae02 q.1 q.2) = true := List.all_eq_true.mpr (chkS_ok _ 0 _ List.drop_zero ckS_J0_isLatin1_aae02).1
theorem fe_J0_isLatin1_aae02 : ∀ r ∈ P_J0_isLatin1_aae02, fetch 224 r.1 = some r.2 := fe_of rfl (chkS_ok _ 0 _ List.drop_zero ckS_J0_isLatin1_aae02).2
theorem ckS_J0_checkIndex_df160 : chkS M_J0_checkIndex_df160 P_J0_checkIndex_df160 0 M_J0_checkIndex_df160.2.2.2.1.data.toList = true := by decide +kernel
theorem ckI_J0_checkIndex_df160 : P_J0_checkIndex_df160.all (fun q => chkI M_J0_checkIndex_df160 q.1 q.2) = true := List.all_eq_true.mpr (chkS_ok _ 0 _ List.drop_zero ckS_J0_checkIndex_df160).1
theorem fe_J0_checkIndex_df160 : ∀ r ∈ P_J0_checkIndex_df160, fetch 225 r.1 = some r.2 := fe_of rfl (chkS_ok _ 0 _ List.drop_zero ckS_J0_checkIndex_df160).2
theorem ckS_J1_charAt_3b067 : chkS M_J1_charAt_3b067 P_J1_charAt_3b067 0 M_J1_charAt_3b067.2.2.2.1.data.toList = true := by decide +kernel
theorem ckI_J1_charAt_3b067 : P_J1_charAt_3b067.all (fun q => chkI M_J1_charAt_3b067 q.1 q.2) = true := List.all_eq_true.mpr (chkS_ok _ 0 _ List.drop_zero ckS_J1_charAt_3b067).1
theorem fe_J1_charAt_3b067 : ∀ r ∈ P_J1_charAt_3b067, fetch 226 r.1 = some r.2 := fe_of rfl (chkS_ok _ 0 _ List.drop_zero ckS_J1_charAt_3b067).2
theorem ckS_J1_canEncode_9a6ad : chkS M_J1_canEncode_9a6ad P_J1_canEncode_9a6ad 0 M_J1_canEncode_9a6ad.2.2.2.1.data.toList = true := by decide +kernel
theorem ckI_J1_canEncode_9a6ad : P_J1_canEncode_9a6ad.all (fun q => chkI M_J1_canEncode_9a6ad q.1 q.2) = true := List.all_eq_true.mpr (chkS_ok _ 0 _ List.drop_zero ckS_J1_canEncode_9a6ad).1
theorem fe_J1_canEncode_9a6ad : ∀ r ∈ P_J1_canEncode_9a6ad, fetch 227 r.1 = some r.2 := fe_of rfl (chkS_ok _ 0 _ List.drop_zero ckS_J1_canEncode_9a6ad).2
theorem ckS_J1_indexOf_4cfef : chkS M_J1_indexOf_4cfef P_J1_indexOf_4cfef 0 M_J1_indexOf_4cfef.2.2.2.1.data.toList = true := by decide +kernel
theorem ckI_J1_indexOf_4cfef : P_J1_indexOf_4cfef.all (fun q => chkI M_J1_indexOf_4cfef q.1 q.2) = true := List.all_eq_true.mpr (chkS_ok _ 0 _ List.drop_zero ckS_J1_indexOf_4cfef).1
theorem fe_J1_indexOf_4cfef : ∀ r ∈ P_J1_indexOf_4cfef, fetch 228 r.1 = some r.2 := fe_of rfl (chkS_ok _ 0 _ List.drop_zero ckS_J1_indexOf_4cfef).2
theorem ckS_J1_indexOfChar_4cfef : chkS M_J1_indexOfChar_4cfef P_J1_indexOfChar_4cfef 0 M_J1_indexOfChar_4cfef.2.2.2.1.data.toList = true := by decide +kernel
theorem ckI_J1_indexOfChar_4cfef : P_J1_indexOfChar_4cfef.all (fun q => chkI M_J1_indexOfChar_4cfef q.1 q.2) = true := List.all_eq_true.mpr (chkS_ok _ 0 _ List.drop_zero ckS_J1_indexOfChar_4cfef).1
theorem fe_J1_indexOfChar_4cfef : ∀ r ∈ P_J1_indexOfChar_4cfef, fetch 229 r.1 = some r.2 := fe_of rfl (chkS_ok _ 0 _ List.drop_zero ckS_J1_indexOfChar_4cfef).2
theorem ckS_J3_checkIndex_8e157 : chkS M_J3_checkIndex_8e157 P_J3_checkIndex_8e157 0 M_J3_checkIndex_8e157.2.2.2.1.data.toList = true := by decide +kernel
theorem ckI_J3_checkIndex_8e157 : P_J3_checkIndex_8e157.all (fun q => chkI M_J3_checkIndex_8e157 q.1 q.2) = true := List.all_eq_true.mpr (chkS_ok _ 0 _ List.drop_zero ckS_J3_checkIndex_8e157).1
theorem fe_J3_checkIndex_8e157 : ∀ r ∈ P_J3_checkIndex_8e157, fetch 230 r.1 = some r.2 := fe_of rfl (chkS_ok _ 0 _ List.drop_zero ckS_J3_checkIndex_8e157).2
set_option maxRecDepth 100000 in
theorem ckI_all : ∀ z ∈ minf.zip progL, z.2.all (fun q => chkI z.1 q.1 q.2) = true := by
  show ∀ z ∈ [(M_L_law, P_L_law), (M_X0_init, P_X0_init), (M_X0_become, P_X0_become), (M_X1_init, P_X1_init), (M_X1_wander, P_X1_wander), (M_X1_ease, P_X1_ease), (M_X1_tears, P_X1_tears), (M_X1_sticks, P_X1_sticks), (M_X1_says, P_X1_says), (M_X2_init, P_X2_init), (M_X2_add, P_X2_add), (M_X2_empty, P_X2_empty), (M_X2_read, P_X2_read), (M_X2_readEither, P_X2_readEither), (M_X2_readBoth, P_X2_readBoth), (M_X2_readNot, P_X2_readNot), (M_X2_readCompared, P_X2_readCompared), (M_X2_readSum, P_X2_readSum), (M_X2_readProduct, P_X2_readProduct), (M_X2_readOne, P_X2_readOne), (M_X2_advance, P_X2_advance), (M_X2_byteAt, P_X2_byteAt), (M_X2_isLetter, P_X2_isLetter), (M_X2_isDigit, P_X2_isDigit), (M_X2_readNumber, P_X2_readNumber), (M_X2_readWord, P_X2_readWord), (M_X2_isWord, P_X2_isWord), (M_X3_init, P_X3_init), (M_X3_begin, P_X3_begin), (M_X3_become, P_X3_become), (M_X3_make, P_X3_make), (M_X3_relax, P_X3_relax), (M_X3_draw, P_X3_draw), (M_X3_lengthen, P_X3_lengthen), (M_X3_bounce, P_X3_bounce), (M_X3_fold, P_X3_fold), (M_X3_foldRow, P_X3_foldRow), (M_X3_powder, P_X3_powder), (M_X3_cutEnd, P_X3_cutEnd), (M_X3_thick, P_X3_thick), (M_X3_thinnest, P_X3_thinnest), (M_X3_thickest, P_X3_thickest), (M_X3_spread, P_X3_spread), (M_X3_isMoreEvenThan, P_X3_isMoreEvenThan), (M_X3_allLength, P_X3_allLength), (M_X3_tenths, P_X3_tenths), (M_X3_goodParts, P_X3_goodParts), (M_X3_cooked, P_X3_cooked), (M_X3_firstOff, P_X3_firstOff), (M_X3_isAsTold, P_X3_isAsTold), (M_X4_init, P_X4_init), (M_X4_become, P_X4_become), (M_X4_has, P_X4_has), (M_X4_put, P_X4_put), (M_X5_init, P_X5_init), (M_X5_become, P_X5_become), (M_X5_takes, P_X5_takes), (M_X5_isA, P_X5_isA), (M_X6_init, P_X6_init), (M_X6_clear, P_X6_clear), (M_X6_nameCode, P_X6_nameCode), (M_X6_add, P_X6_add), (M_X6_endSection, P_X6_endSection), (M_X6_value, P_X6_value), (M_X6_named, P_X6_named), (M_X6_joined, P_X6_joined), (M_X7_init, P_X7_init), (M_X7_roll, P_X7_roll), (M_X7_set, P_X7_set), (M_X7_count, P_X7_count), (M_X7_feed, P_X7_feed), (M_X7_text, P_X7_text), (M_X7_force, P_X7_force), (M_X7_step, P_X7_step), (M_X7_forget, P_X7_forget), (M_X7_stepTold, P_X7_stepTold), (M_X7_rope, P_X7_rope), (M_X7_state, P_X7_state), (M_X7_whole, P_X7_whole), (M_X7_stop, P_X7_stop), (M_X7_worst, P_X7_worst), (M_X7_window, P_X7_window), (M_X7_pace, P_X7_pace), (M_X7_rest, P_X7_rest), (M_X7_dust, P_X7_dust), (M_X7_doublings, P_X7_doublings), (M_X7_judge, P_X7_judge), (M_X7_film, P_X7_film), (M_X7_serves, P_X7_serves), (M_X7_which, P_X7_which), (M_X7_fault, P_X7_fault), (M_X7_uneven, P_X7_uneven), (M_X7_cooks, P_X7_cooks), (M_X7_pot, P_X7_pot), (M_X7_place, P_X7_place), (M_X7_apart, P_X7_apart), (M_X7_parted, P_X7_parted), (M_X7_round, P_X7_round), (M_X7_colours, P_X7_colours), (M_X7_thin, P_X7_thin), (M_X7_odds, P_X7_odds), (M_X7_record, P_X7_record), (M_X7_drawn, P_X7_drawn), (M_X7_image, P_X7_image), (M_X7_back, P_X7_back), (M_X7_sheet, P_X7_sheet), (M_X7_cell, P_X7_cell), (M_X7_copy, P_X7_copy), (M_X7_stepsBy, P_X7_stepsBy), (M_X7_taken, P_X7_taken), (M_X7_within, P_X7_within), (M_X7_quotient, P_X7_quotient), (M_X7_isStep, P_X7_isStep), (M_X7_areSteps, P_X7_areSteps), (M_X7_isSheet, P_X7_isSheet), (M_X7_isPlace, P_X7_isPlace), (M_X7_areOdds, P_X7_areOdds), (M_X7_refusalOfTest, P_X7_refusalOfTest), (M_X7_make, P_X7_make), (M_X7_tryDrawing, P_X7_tryDrawing), (M_X7_allTake, P_X7_allTake), (M_X7_placeBehind, P_X7_placeBehind), (M_X7_colour, P_X7_colour), (M_X7_multiplied, P_X7_multiplied), (M_X7_inLowestTerms, P_X7_inLowestTerms), (M_X8_init, P_X8_init), (M_X8_in, P_X8_in), (M_X8_isCell, P_X8_isCell), (M_X8_areSteps, P_X8_areSteps), (M_X8_size, P_X8_size), (M_X8_within, P_X8_within), (M_X8_roll, P_X8_roll), (M_X8_set, P_X8_set), (M_X8_holds0, P_X8_holds0), (M_X8_count, P_X8_count), (M_X8_feed, P_X8_feed), (M_X8_wordFrom, P_X8_wordFrom), (M_X8_next, P_X8_next), (M_X8_rank, P_X8_rank), (M_X8_puts, P_X8_puts), (M_X8_unwinds, P_X8_unwinds), (M_X8_holds, P_X8_holds), (M_X8_opensOne, P_X8_opensOne), (M_X8_between, P_X8_between), (M_X8_signOf, P_X8_signOf), (M_X8_eRead, P_X8_eRead), (M_X8_text, P_X8_text), (M_X8_two, P_X8_two), (M_X8_worth, P_X8_worth), (M_X8_force, P_X8_force), (M_X8_step, P_X8_step), (M_X8_forget, P_X8_forget), (M_X8_takesOf, P_X8_takesOf), (M_X8_stepTold, P_X8_stepTold), (M_X8_thickOf, P_X8_thickOf), (M_X8_asks, P_X8_asks), (M_X8_allLength, P_X8_allLength), (M_X8_drawsMore, P_X8_drawsMore), (M_X8_draws, P_X8_draws), (M_X8_keepsRow, P_X8_keepsRow), (M_X8_bounces, P_X8_bounces), (M_X8_doubles, P_X8_doubles), (M_X8_cuts, P_X8_cuts), (M_X8_rests, P_X8_rests), (M_X8_dusts, P_X8_dusts), (M_X8_makes, P_X8_makes), (M_X8_begins, P_X8_begins), (M_X8_goesBut, P_X8_goesBut), (M_X8_goes, P_X8_goes), (M_X8_rope, P_X8_rope), (M_X8_least, P_X8_least), (M_X8_greatest, P_X8_greatest), (M_X8_spread, P_X8_spread), (M_X8_doubled, P_X8_doubled), (M_X8_state, P_X8_state), (M_X8_both, P_X8_both), (M_X8_whole, P_X8_whole), (M_X8_stop, P_X8_stop), (M_X8_worst, P_X8_worst), (M_X8_some, P_X8_some), (M_X8_window, P_X8_window), (M_X8_pace, P_X8_pace), (M_X8_rest, P_X8_rest), (M_X8_dust, P_X8_dust), (M_X8_doublings, P_X8_doublings), (M_X8_sheetWrong, P_X8_sheetWrong), (M_X8_offFrom, P_X8_offFrom), (M_X8_judge, P_X8_judge), (M_X8_film, P_X8_film), (M_X8_serves, P_X8_serves), (M_X8_which, P_X8_which), (M_X8_fault, P_X8_fault), (M_X8_uneven, P_X8_uneven), (M_X8_cooked, P_X8_cooked), (M_X8_cooks, P_X8_cooks), (M_X8_pot, P_X8_pot), (M_X8_isSpot, P_X8_isSpot), (M_X8_doubledOnce, P_X8_doubledOnce), (M_X8_behind, P_X8_behind), (M_X8_place, P_X8_place), (M_X8_apart, P_X8_apart), (M_X8_parted, P_X8_parted), (M_X8_round, P_X8_round), (M_X8_colours, P_X8_colours), (M_X8_lowest, P_X8_lowest), (M_X8_power, P_X8_power), (M_X8_thin, P_X8_thin), (M_X8_areOdds, P_X8_areOdds), (M_X8_odds, P_X8_odds), (M_X8_record, P_X8_record), (M_X8_drawn, P_X8_drawn), (M_X8_image, P_X8_image), (M_X8_back, P_X8_back), (M_X8_sheet, P_X8_sheet), (M_X8_cell, P_X8_cell), (M_X8_copy, P_X8_copy), (M_X8_stepsBy, P_X8_stepsBy), (M_X8_isUnder, P_X8_isUnder), (M_X8_taken, P_X8_taken), (M_J0_length_8abf5, P_J0_length_8abf5), (M_J0_charAt_5068e, P_J0_charAt_5068e), (M_J0_indexOf_0f7a4, P_J0_indexOf_0f7a4), (M_J0_indexOf_7cf53, P_J0_indexOf_7cf53), (M_J0_coder_7d493, P_J0_coder_7d493), (M_J0_isLatin1_aae02, P_J0_isLatin1_aae02), (M_J0_checkIndex_df160, P_J0_checkIndex_df160), (M_J1_charAt_3b067, P_J1_charAt_3b067), (M_J1_canEncode_9a6ad, P_J1_canEncode_9a6ad), (M_J1_indexOf_4cfef, P_J1_indexOf_4cfef), (M_J1_indexOfChar_4cfef, P_J1_indexOfChar_4cfef), (M_J3_checkIndex_8e157, P_J3_checkIndex_8e157)], z.2.all (fun q => chkI z.1 q.1 q.2) = true
  exact List.forall_mem_cons.mpr ⟨ckI_L_law, (List.forall_mem_cons.mpr ⟨ckI_X0_init, (List.forall_mem_cons.mpr ⟨ckI_X0_become, (List.forall_mem_cons.mpr ⟨ckI_X1_init, (List.forall_mem_cons.mpr ⟨ckI_X1_wander, (List.forall_mem_cons.mpr ⟨ckI_X1_ease, (List.forall_mem_cons.mpr ⟨ckI_X1_tears, (List.forall_mem_cons.mpr ⟨ckI_X1_sticks, (List.forall_mem_cons.mpr ⟨ckI_X1_says, (List.forall_mem_cons.mpr ⟨ckI_X2_init, (List.forall_mem_cons.mpr ⟨ckI_X2_add, (List.forall_mem_cons.mpr ⟨ckI_X2_empty, (List.forall_mem_cons.mpr ⟨ckI_X2_read, (List.forall_mem_cons.mpr ⟨ckI_X2_readEither, (List.forall_mem_cons.mpr ⟨ckI_X2_readBoth, (List.forall_mem_cons.mpr ⟨ckI_X2_readNot, (List.forall_mem_cons.mpr ⟨ckI_X2_readCompared, (List.forall_mem_cons.mpr ⟨ckI_X2_readSum, (List.forall_mem_cons.mpr ⟨ckI_X2_readProduct, (List.forall_mem_cons.mpr ⟨ckI_X2_readOne, (List.forall_mem_cons.mpr ⟨ckI_X2_advance, (List.forall_mem_cons.mpr ⟨ckI_X2_byteAt, (List.forall_mem_cons.mpr ⟨ckI_X2_isLetter, (List.forall_mem_cons.mpr ⟨ckI_X2_isDigit, (List.forall_mem_cons.mpr ⟨ckI_X2_readNumber, (List.forall_mem_cons.mpr ⟨ckI_X2_readWord, (List.forall_mem_cons.mpr ⟨ckI_X2_isWord, (List.forall_mem_cons.mpr ⟨ckI_X3_init, (List.forall_mem_cons.mpr ⟨ckI_X3_begin, (List.forall_mem_cons.mpr ⟨ckI_X3_become, (List.forall_mem_cons.mpr ⟨ckI_X3_make, (List.forall_mem_cons.mpr ⟨ckI_X3_relax, (List.forall_mem_cons.mpr ⟨ckI_X3_draw, (List.forall_mem_cons.mpr ⟨ckI_X3_lengthen, (List.forall_mem_cons.mpr ⟨ckI_X3_bounce, (List.forall_mem_cons.mpr ⟨ckI_X3_fold, (List.forall_mem_cons.mpr ⟨ckI_X3_foldRow, (List.forall_mem_cons.mpr ⟨ckI_X3_powder, (List.forall_mem_cons.mpr ⟨ckI_X3_cutEnd, (List.forall_mem_cons.mpr ⟨ckI_X3_thick, (List.forall_mem_cons.mpr ⟨ckI_X3_thinnest, (List.forall_mem_cons.mpr ⟨ckI_X3_thickest, (List.forall_mem_cons.mpr ⟨ckI_X3_spread, (List.forall_mem_cons.mpr ⟨ckI_X3_isMoreEvenThan, (List.forall_mem_cons.mpr ⟨ckI_X3_allLength, (List.forall_mem_cons.mpr ⟨ckI_X3_tenths, (List.forall_mem_cons.mpr ⟨ckI_X3_goodParts, (List.forall_mem_cons.mpr ⟨ckI_X3_cooked, (List.forall_mem_cons.mpr ⟨ckI_X3_firstOff, (List.forall_mem_cons.mpr ⟨ckI_X3_isAsTold, (List.forall_mem_cons.mpr ⟨ckI_X4_init, (List.forall_mem_cons.mpr ⟨ckI_X4_become, (List.forall_mem_cons.mpr ⟨ckI_X4_has, (List.forall_mem_cons.mpr ⟨ckI_X4_put, (List.forall_mem_cons.mpr ⟨ckI_X5_init, (List.forall_mem_cons.mpr ⟨ckI_X5_become, (List.forall_mem_cons.mpr ⟨ckI_X5_takes, (List.forall_mem_cons.mpr ⟨ckI_X5_isA, (List.forall_mem_cons.mpr ⟨ckI_X6_init, (List.forall_mem_cons.mpr ⟨ckI_X6_clear, (List.forall_mem_cons.mpr ⟨ckI_X6_nameCode, (List.forall_mem_cons.mpr ⟨ckI_X6_add, (List.forall_mem_cons.mpr ⟨ckI_X6_endSection, (List.forall_mem_cons.mpr ⟨ckI_X6_value, (List.forall_mem_cons.mpr ⟨ckI_X6_named, (List.forall_mem_cons.mpr ⟨ckI_X6_joined, (List.forall_mem_cons.mpr ⟨ckI_X7_init, (List.forall_mem_cons.mpr ⟨ckI_X7_roll, (List.forall_mem_cons.mpr ⟨ckI_X7_set, (List.forall_mem_cons.mpr ⟨ckI_X7_count, (List.forall_mem_cons.mpr ⟨ckI_X7_feed, (List.forall_mem_cons.mpr ⟨ckI_X7_text, (List.forall_mem_cons.mpr ⟨ckI_X7_force, (List.forall_mem_cons.mpr ⟨ckI_X7_step, (List.forall_mem_cons.mpr ⟨ckI_X7_forget, (List.forall_mem_cons.mpr ⟨ckI_X7_stepTold, (List.forall_mem_cons.mpr ⟨ckI_X7_rope, (List.forall_mem_cons.mpr ⟨ckI_X7_state, (List.forall_mem_cons.mpr ⟨ckI_X7_whole, (List.forall_mem_cons.mpr ⟨ckI_X7_stop, (List.forall_mem_cons.mpr ⟨ckI_X7_worst, (List.forall_mem_cons.mpr ⟨ckI_X7_window, (List.forall_mem_cons.mpr ⟨ckI_X7_pace, (List.forall_mem_cons.mpr ⟨ckI_X7_rest, (List.forall_mem_cons.mpr ⟨ckI_X7_dust, (List.forall_mem_cons.mpr ⟨ckI_X7_doublings, (List.forall_mem_cons.mpr ⟨ckI_X7_judge, (List.forall_mem_cons.mpr ⟨ckI_X7_film, (List.forall_mem_cons.mpr ⟨ckI_X7_serves, (List.forall_mem_cons.mpr ⟨ckI_X7_which, (List.forall_mem_cons.mpr ⟨ckI_X7_fault, (List.forall_mem_cons.mpr ⟨ckI_X7_uneven, (List.forall_mem_cons.mpr ⟨ckI_X7_cooks, (List.forall_mem_cons.mpr ⟨ckI_X7_pot, (List.forall_mem_cons.mpr ⟨ckI_X7_place, (List.forall_mem_cons.mpr ⟨ckI_X7_apart, (List.forall_mem_cons.mpr ⟨ckI_X7_parted, (List.forall_mem_cons.mpr ⟨ckI_X7_round, (List.forall_mem_cons.mpr ⟨ckI_X7_colours, (List.forall_mem_cons.mpr ⟨ckI_X7_thin, (List.forall_mem_cons.mpr ⟨ckI_X7_odds, (List.forall_mem_cons.mpr ⟨ckI_X7_record, (List.forall_mem_cons.mpr ⟨ckI_X7_drawn, (List.forall_mem_cons.mpr ⟨ckI_X7_image, (List.forall_mem_cons.mpr ⟨ckI_X7_back, (List.forall_mem_cons.mpr ⟨ckI_X7_sheet, (List.forall_mem_cons.mpr ⟨ckI_X7_cell, (List.forall_mem_cons.mpr ⟨ckI_X7_copy, (List.forall_mem_cons.mpr ⟨ckI_X7_stepsBy, (List.forall_mem_cons.mpr ⟨ckI_X7_taken, (List.forall_mem_cons.mpr ⟨ckI_X7_within, (List.forall_mem_cons.mpr ⟨ckI_X7_quotient, (List.forall_mem_cons.mpr ⟨ckI_X7_isStep, (List.forall_mem_cons.mpr ⟨ckI_X7_areSteps, (List.forall_mem_cons.mpr ⟨ckI_X7_isSheet, (List.forall_mem_cons.mpr ⟨ckI_X7_isPlace, (List.forall_mem_cons.mpr ⟨ckI_X7_areOdds, (List.forall_mem_cons.mpr ⟨ckI_X7_refusalOfTest, (List.forall_mem_cons.mpr ⟨ckI_X7_make, (List.forall_mem_cons.mpr ⟨ckI_X7_tryDrawing, (List.forall_mem_cons.mpr ⟨ckI_X7_allTake, (List.forall_mem_cons.mpr ⟨ckI_X7_placeBehind, (List.forall_mem_cons.mpr ⟨ckI_X7_colour, (List.forall_mem_cons.mpr ⟨ckI_X7_multiplied, (List.forall_mem_cons.mpr ⟨ckI_X7_inLowestTerms, (List.forall_mem_cons.mpr ⟨ckI_X8_init, (List.forall_mem_cons.mpr ⟨ckI_X8_in, (List.forall_mem_cons.mpr ⟨ckI_X8_isCell, (List.forall_mem_cons.mpr ⟨ckI_X8_areSteps, (List.forall_mem_cons.mpr ⟨ckI_X8_size, (List.forall_mem_cons.mpr ⟨ckI_X8_within, (List.forall_mem_cons.mpr ⟨ckI_X8_roll, (List.forall_mem_cons.mpr ⟨ckI_X8_set, (List.forall_mem_cons.mpr ⟨ckI_X8_holds0, (List.forall_mem_cons.mpr ⟨ckI_X8_count, (List.forall_mem_cons.mpr ⟨ckI_X8_feed, (List.forall_mem_cons.mpr ⟨ckI_X8_wordFrom, (List.forall_mem_cons.mpr ⟨ckI_X8_next, (List.forall_mem_cons.mpr ⟨ckI_X8_rank, (List.forall_mem_cons.mpr ⟨ckI_X8_puts, (List.forall_mem_cons.mpr ⟨ckI_X8_unwinds, (List.forall_mem_cons.mpr ⟨ckI_X8_holds, (List.forall_mem_cons.mpr ⟨ckI_X8_opensOne, (List.forall_mem_cons.mpr ⟨ckI_X8_between, (List.forall_mem_cons.mpr ⟨ckI_X8_signOf, (List.forall_mem_cons.mpr ⟨ckI_X8_eRead, (List.forall_mem_cons.mpr ⟨ckI_X8_text, (List.forall_mem_cons.mpr ⟨ckI_X8_two, (List.forall_mem_cons.mpr ⟨ckI_X8_worth, (List.forall_mem_cons.mpr ⟨ckI_X8_force, (List.forall_mem_cons.mpr ⟨ckI_X8_step, (List.forall_mem_cons.mpr ⟨ckI_X8_forget, (List.forall_mem_cons.mpr ⟨ckI_X8_takesOf, (List.forall_mem_cons.mpr ⟨ckI_X8_stepTold, (List.forall_mem_cons.mpr ⟨ckI_X8_thickOf, (List.forall_mem_cons.mpr ⟨ckI_X8_asks, (List.forall_mem_cons.mpr ⟨ckI_X8_allLength, (List.forall_mem_cons.mpr ⟨ckI_X8_drawsMore, (List.forall_mem_cons.mpr ⟨ckI_X8_draws, (List.forall_mem_cons.mpr ⟨ckI_X8_keepsRow, (List.forall_mem_cons.mpr ⟨ckI_X8_bounces, (List.forall_mem_cons.mpr ⟨ckI_X8_doubles, (List.forall_mem_cons.mpr ⟨ckI_X8_cuts, (List.forall_mem_cons.mpr ⟨ckI_X8_rests, (List.forall_mem_cons.mpr ⟨ckI_X8_dusts, (List.forall_mem_cons.mpr ⟨ckI_X8_makes, (List.forall_mem_cons.mpr ⟨ckI_X8_begins, (List.forall_mem_cons.mpr ⟨ckI_X8_goesBut, (List.forall_mem_cons.mpr ⟨ckI_X8_goes, (List.forall_mem_cons.mpr ⟨ckI_X8_rope, (List.forall_mem_cons.mpr ⟨ckI_X8_least, (List.forall_mem_cons.mpr ⟨ckI_X8_greatest, (List.forall_mem_cons.mpr ⟨ckI_X8_spread, (List.forall_mem_cons.mpr ⟨ckI_X8_doubled, (List.forall_mem_cons.mpr ⟨ckI_X8_state, (List.forall_mem_cons.mpr ⟨ckI_X8_both, (List.forall_mem_cons.mpr ⟨ckI_X8_whole, (List.forall_mem_cons.mpr ⟨ckI_X8_stop, (List.forall_mem_cons.mpr ⟨ckI_X8_worst, (List.forall_mem_cons.mpr ⟨ckI_X8_some, (List.forall_mem_cons.mpr ⟨ckI_X8_window, (List.forall_mem_cons.mpr ⟨ckI_X8_pace, (List.forall_mem_cons.mpr ⟨ckI_X8_rest, (List.forall_mem_cons.mpr ⟨ckI_X8_dust, (List.forall_mem_cons.mpr ⟨ckI_X8_doublings, (List.forall_mem_cons.mpr ⟨ckI_X8_sheetWrong, (List.forall_mem_cons.mpr ⟨ckI_X8_offFrom, (List.forall_mem_cons.mpr ⟨ckI_X8_judge, (List.forall_mem_cons.mpr ⟨ckI_X8_film, (List.forall_mem_cons.mpr ⟨ckI_X8_serves, (List.forall_mem_cons.mpr ⟨ckI_X8_which, (List.forall_mem_cons.mpr ⟨ckI_X8_fault, (List.forall_mem_cons.mpr ⟨ckI_X8_uneven, (List.forall_mem_cons.mpr ⟨ckI_X8_cooked, (List.forall_mem_cons.mpr ⟨ckI_X8_cooks, (List.forall_mem_cons.mpr ⟨ckI_X8_pot, (List.forall_mem_cons.mpr ⟨ckI_X8_isSpot, (List.forall_mem_cons.mpr ⟨ckI_X8_doubledOnce, (List.forall_mem_cons.mpr ⟨ckI_X8_behind, (List.forall_mem_cons.mpr ⟨ckI_X8_place, (List.forall_mem_cons.mpr ⟨ckI_X8_apart, (List.forall_mem_cons.mpr ⟨ckI_X8_parted, (List.forall_mem_cons.mpr ⟨ckI_X8_round, (List.forall_mem_cons.mpr ⟨ckI_X8_colours, (List.forall_mem_cons.mpr ⟨ckI_X8_lowest, (List.forall_mem_cons.mpr ⟨ckI_X8_power, (List.forall_mem_cons.mpr ⟨ckI_X8_thin, (List.forall_mem_cons.mpr ⟨ckI_X8_areOdds, (List.forall_mem_cons.mpr ⟨ckI_X8_odds, (List.forall_mem_cons.mpr ⟨ckI_X8_record, (List.forall_mem_cons.mpr ⟨ckI_X8_drawn, (List.forall_mem_cons.mpr ⟨ckI_X8_image, (List.forall_mem_cons.mpr ⟨ckI_X8_back, (List.forall_mem_cons.mpr ⟨ckI_X8_sheet, (List.forall_mem_cons.mpr ⟨ckI_X8_cell, (List.forall_mem_cons.mpr ⟨ckI_X8_copy, (List.forall_mem_cons.mpr ⟨ckI_X8_stepsBy, (List.forall_mem_cons.mpr ⟨ckI_X8_isUnder, (List.forall_mem_cons.mpr ⟨ckI_X8_taken, (List.forall_mem_cons.mpr ⟨ckI_J0_length_8abf5, (List.forall_mem_cons.mpr ⟨ckI_J0_charAt_5068e, (List.forall_mem_cons.mpr ⟨ckI_J0_indexOf_0f7a4, (List.forall_mem_cons.mpr ⟨ckI_J0_indexOf_7cf53, (List.forall_mem_cons.mpr ⟨ckI_J0_coder_7d493, (List.forall_mem_cons.mpr ⟨ckI_J0_isLatin1_aae02, (List.forall_mem_cons.mpr ⟨ckI_J0_checkIndex_df160, (List.forall_mem_cons.mpr ⟨ckI_J1_charAt_3b067, (List.forall_mem_cons.mpr ⟨ckI_J1_canEncode_9a6ad, (List.forall_mem_cons.mpr ⟨ckI_J1_indexOf_4cfef, (List.forall_mem_cons.mpr ⟨ckI_J1_indexOfChar_4cfef, (List.forall_mem_cons.mpr ⟨ckI_J3_checkIndex_8e157, fun _ h => absurd h List.not_mem_nil⟩)⟩)⟩)⟩)⟩)⟩)⟩)⟩)⟩)⟩)⟩)⟩)⟩)⟩)⟩)⟩)⟩)⟩)⟩)⟩)⟩)⟩)⟩)⟩)⟩)⟩)⟩)⟩)⟩)⟩)⟩)⟩)⟩)⟩)⟩)⟩)⟩)⟩)⟩)⟩)⟩)⟩)⟩)⟩)⟩)⟩)⟩)⟩)⟩)⟩)⟩)⟩)⟩)⟩)⟩)⟩)⟩)⟩)⟩)⟩)⟩)⟩)⟩)⟩)⟩)⟩)⟩)⟩)⟩)⟩)⟩)⟩)⟩)⟩)⟩)⟩)⟩)⟩)⟩)⟩)⟩)⟩)⟩)⟩)⟩)⟩)⟩)⟩)⟩)⟩)⟩)⟩)⟩)⟩)⟩)⟩)⟩)⟩)⟩)⟩)⟩)⟩)⟩)⟩)⟩)⟩)⟩)⟩)⟩)⟩)⟩)⟩)⟩)⟩)⟩)⟩)⟩)⟩)⟩)⟩)⟩)⟩)⟩)⟩)⟩)⟩)⟩)⟩)⟩)⟩)⟩)⟩)⟩)⟩)⟩)⟩)⟩)⟩)⟩)⟩)⟩)⟩)⟩)⟩)⟩)⟩)⟩)⟩)⟩)⟩)⟩)⟩)⟩)⟩)⟩)⟩)⟩)⟩)⟩)⟩)⟩)⟩)⟩)⟩)⟩)⟩)⟩)⟩)⟩)⟩)⟩)⟩)⟩)⟩)⟩)⟩)⟩)⟩)⟩)⟩)⟩)⟩)⟩)⟩)⟩)⟩)⟩)⟩)⟩)⟩)⟩)⟩)⟩)⟩)⟩)⟩)⟩)⟩)⟩)⟩)⟩)⟩)⟩)⟩)⟩)⟩)⟩)⟩)⟩)⟩)⟩)⟩)⟩)⟩)⟩)⟩)⟩)⟩)⟩)⟩)⟩)⟩)⟩)⟩)⟩)⟩)⟩)⟩)⟩)⟩)⟩
/-- the program's check, whole -/
noncomputable def TBLG : List Cond := lw_tbl.filter goodWord
theorem tbg {t : Nat} {w : Cond} (h : tat t w = true) : w ∈ TBLG := by
  unfold tat at h
  obtain ⟨h1, h2⟩ := and_tt h
  split at h1
  · next l hl => exact List.mem_filter.mpr ⟨lwCs_ok l (List.mem_of_getElem? hl) w (List.mem_of_getElem? (of_decide_eq_true h1)), h2⟩
  · cases h1
theorem tbgl {w : Cond} (h : w ∈ lw_tbl) (hg : goodWord w = true) : w ∈ TBLG := List.mem_filter.mpr ⟨h, hg⟩
noncomputable def ChkOK : Prop := (∀ mi M, minf[mi]? = some M → ∀ pc q, fetch mi pc = some q → chkI M pc q = true) ∧ ∀ mi M, 0 < mi → minf[mi]? = some M → chkM M = true ∧ Cond.code M.2.2.1 M.2.2.2.1 M.2.2.2.2.1 M.2.2.2.2.2.1 ∈ TBLG
theorem take_all {α : Type} (f : α → Bool) (l : List α) (a b n : Nat) (h1 : ∀ x ∈ (l.drop a).take n, f x = true) (h2 : ∀ x ∈ l.drop (a + n), f x = true) : ∀ x ∈ l.drop a, f x = true := by
  intro x hx
  rw [← List.take_append_drop n (l.drop a)] at hx
  rcases List.mem_append.mp hx with h | h
  · exact h1 x h
  · rw [List.drop_drop] at h
    exact h2 x h
theorem ckM_all : ∀ M ∈ minf.drop 1, chkM M = true := by
  refine take_all chkM minf 1 0 40 (List.all_eq_true.mp ckM_0) ?_
  refine take_all chkM minf 41 0 40 (List.all_eq_true.mp ckM_40) ?_
  refine take_all chkM minf 81 0 40 (List.all_eq_true.mp ckM_80) ?_
  refine take_all chkM minf 121 0 40 (List.all_eq_true.mp ckM_120) ?_
  refine take_all chkM minf 161 0 40 (List.all_eq_true.mp ckM_160) ?_
  refine take_all chkM minf 201 0 40 (List.all_eq_true.mp ckM_200) ?_
  intro x hx
  have h0 : minf.drop 241 = [] := rfl
  rw [h0] at hx
  exact absurd hx List.not_mem_nil
theorem minf_drop : minf.drop 1 = minf.tail := rfl
theorem chk_ok : ChkOK := by
  constructor
  · intro mi M hM pc q hf
    unfold fetch at hf
    split at hf
    · next l hl =>
      have hz : (minf.zip progL)[mi]? = some (M, l) := by
        rw [List.getElem?_zip_eq_some]
        exact ⟨hM, hl⟩
      have h1 := ckI_all (M, l) (List.mem_of_getElem? hz)
      have hmem : (pc, q) ∈ l := by
        obtain ⟨l1, l2, he, -⟩ := List.lookup_eq_some_iff.mp hf
        rw [he]
        simp
      exact List.all_eq_true.mp h1 (pc, q) hmem
    · cases hf
  · intro mi M h0 hM
    have hmem : M ∈ minf.drop 1 := by
      obtain ⟨k, rfl⟩ : ∃ k, mi = k + 1 := ⟨mi - 1, by omega⟩
      have h1 : (minf.drop 1)[k]? = some M := by rw [List.getElem?_drop, Nat.add_comm]; exact hM
      exact List.mem_of_getElem? h1
    exact ⟨ckM_all M hmem, tbgl (code_all M hmem) rfl⟩

