def z_ap {α : Type} {P : α → Prop} {a b : List α} (ha : ∀ q ∈ a, P q) (hb : ∀ q ∈ b, P q) : ∀ q ∈ a ++ b, P q := fun q h => (List.mem_append.mp h).elim (ha q) (hb q)
theorem z_ci233_0 : ∀ q ∈ z_c233_0, decode code q.1 = .ok q.2 := by decide +kernel
theorem z_ci233_1 : ∀ q ∈ z_c233_1, decode code q.1 = .ok q.2 := by decide +kernel
theorem z_ci233_2 : ∀ q ∈ z_c233_2, decode code q.1 = .ok q.2 := by decide +kernel
theorem z_ci233_3 : ∀ q ∈ z_c233_3, decode code q.1 = .ok q.2 := by decide +kernel
theorem z_ci233_4 : ∀ q ∈ z_c233_4, decode code q.1 = .ok q.2 := by decide +kernel
theorem z_ci233_5 : ∀ q ∈ z_c233_5, decode code q.1 = .ok q.2 := by decide +kernel
theorem z_ci233_6 : ∀ q ∈ z_c233_6, decode code q.1 = .ok q.2 := by decide +kernel
theorem z_ci233_7 : ∀ q ∈ z_c233_7, decode code q.1 = .ok q.2 := by decide +kernel
theorem z_ci233_8 : ∀ q ∈ z_c233_8, decode code q.1 = .ok q.2 := by decide +kernel
theorem z_ci233_9 : ∀ q ∈ z_c233_9, decode code q.1 = .ok q.2 := by decide +kernel
theorem z_ci233_10 : ∀ q ∈ z_c233_10, decode code q.1 = .ok q.2 := by decide +kernel
theorem z_ci233_11 : ∀ q ∈ z_c233_11, decode code q.1 = .ok q.2 := by decide +kernel
theorem z_ci233_12 : ∀ q ∈ z_c233_12, decode code q.1 = .ok q.2 := by decide +kernel
theorem z_ci233_13 : ∀ q ∈ z_c233_13, decode code q.1 = .ok q.2 := by decide +kernel
theorem z_ci233_14 : ∀ q ∈ z_c233_14, decode code q.1 = .ok q.2 := by decide +kernel
theorem z_ci233_15 : ∀ q ∈ z_c233_15, decode code q.1 = .ok q.2 := by decide +kernel
theorem z_ci233_16 : ∀ q ∈ z_c233_16, decode code q.1 = .ok q.2 := by decide +kernel
theorem z_ci233_17 : ∀ q ∈ z_c233_17, decode code q.1 = .ok q.2 := by decide +kernel
theorem z_ci233_18 : ∀ q ∈ z_c233_18, decode code q.1 = .ok q.2 := by decide +kernel
theorem z_ci233_19 : ∀ q ∈ z_c233_19, decode code q.1 = .ok q.2 := by decide +kernel
theorem z_ci233_20 : ∀ q ∈ z_c233_20, decode code q.1 = .ok q.2 := by decide +kernel
theorem z_ci233_21 : ∀ q ∈ z_c233_21, decode code q.1 = .ok q.2 := by decide +kernel
theorem z_ci233_22 : ∀ q ∈ z_c233_22, decode code q.1 = .ok q.2 := by decide +kernel
theorem z_ci233_23 : ∀ q ∈ z_c233_23, decode code q.1 = .ok q.2 := by decide +kernel
theorem z_ci233_24 : ∀ q ∈ z_c233_24, decode code q.1 = .ok q.2 := by decide +kernel
theorem z_ci233 : ∀ q ∈ z_c233, decode code q.1 = .ok q.2 := z_ap z_ci233_0 (z_ap z_ci233_1 (z_ap z_ci233_2 (z_ap z_ci233_3 (z_ap z_ci233_4 (z_ap z_ci233_5 (z_ap z_ci233_6 (z_ap z_ci233_7 (z_ap z_ci233_8 (z_ap z_ci233_9 (z_ap z_ci233_10 (z_ap z_ci233_11 (z_ap z_ci233_12 (z_ap z_ci233_13 (z_ap z_ci233_14 (z_ap z_ci233_15 (z_ap z_ci233_16 (z_ap z_ci233_17 (z_ap z_ci233_18 (z_ap z_ci233_19 (z_ap z_ci233_20 (z_ap z_ci233_21 (z_ap z_ci233_22 (z_ap z_ci233_23 z_ci233_24)))))))))))))))))))))))
theorem z_ciA : z_okI z_cod z_bcs := ⟨z_ci0, ⟨z_ci1, ⟨z_ci2, ⟨z_ci3, ⟨z_ci4, ⟨z_ci5, ⟨z_ci6, ⟨z_ci7, ⟨z_ci8, ⟨z_ci9, ⟨z_ci10, ⟨z_ci11, ⟨z_ci12, ⟨z_ci13, ⟨z_ci14, ⟨z_ci15, ⟨z_ci16, ⟨z_ci17, ⟨z_ci18, ⟨z_ci19, ⟨z_ci20, ⟨z_ci21, ⟨z_ci22, ⟨z_ci23, ⟨z_ci24, ⟨z_ci25, ⟨z_ci26, ⟨z_ci27, ⟨z_ci28, ⟨z_ci29, ⟨z_ci30, ⟨z_ci31, ⟨z_ci32, ⟨z_ci33, ⟨z_ci34, ⟨z_ci35, ⟨z_ci36, ⟨z_ci37, ⟨z_ci38, ⟨z_ci39, ⟨z_ci40, ⟨z_ci41, ⟨z_ci42, ⟨z_ci43, ⟨z_ci44, ⟨z_ci45, ⟨z_ci46, ⟨z_ci47, ⟨z_ci48, ⟨z_ci49, ⟨z_ci50, ⟨z_ci51, ⟨z_ci52, ⟨z_ci53, ⟨z_ci54, ⟨z_ci55, ⟨z_ci56, ⟨z_ci57, ⟨z_ci58, ⟨z_ci59, ⟨z_ci60, ⟨z_ci61, ⟨z_ci62, ⟨z_ci63, ⟨z_ci64, ⟨z_ci65, ⟨z_ci66, ⟨z_ci67, ⟨z_ci68, ⟨z_ci69, ⟨z_ci70, ⟨z_ci71, ⟨z_ci72, ⟨z_ci73, ⟨z_ci74, ⟨z_ci75, ⟨z_ci76, ⟨z_ci77, ⟨z_ci78, ⟨z_ci79, ⟨z_ci80, ⟨z_ci81, ⟨z_ci82, ⟨z_ci83, ⟨z_ci84, ⟨z_ci85, ⟨z_ci86, ⟨z_ci87, ⟨z_ci88, ⟨z_ci89, ⟨z_ci90, ⟨z_ci91, ⟨z_ci92, ⟨z_ci93, ⟨z_ci94, ⟨z_ci95, ⟨z_ci96, ⟨z_ci97, ⟨z_ci98, ⟨z_ci99, ⟨z_ci100, ⟨z_ci101, ⟨z_ci102, ⟨z_ci103, ⟨z_ci104, ⟨z_ci105, ⟨z_ci106, ⟨z_ci107, ⟨z_ci108, ⟨z_ci109, ⟨z_ci110, ⟨z_ci111, ⟨z_ci112, ⟨z_ci113, ⟨z_ci114, ⟨z_ci115, ⟨z_ci116, ⟨z_ci117, ⟨z_ci118, ⟨z_ci119, ⟨z_ci120, ⟨z_ci121, ⟨z_ci122, ⟨z_ci123, ⟨z_ci124, ⟨z_ci125, ⟨z_ci126, ⟨z_ci127, ⟨z_ci128, ⟨z_ci129, ⟨z_ci130, ⟨z_ci131, ⟨z_ci132, ⟨z_ci133, ⟨z_ci134, ⟨z_ci135, ⟨z_ci136, ⟨z_ci137, ⟨z_ci138, ⟨z_ci139, ⟨z_ci140, ⟨z_ci141, ⟨z_ci142, ⟨z_ci143, ⟨z_ci144, ⟨z_ci145, ⟨z_ci146, ⟨z_ci147, ⟨z_ci148, ⟨z_ci149, ⟨z_ci150, ⟨z_ci151, ⟨z_ci152, ⟨z_ci153, ⟨z_ci154, ⟨z_ci155, ⟨z_ci156, ⟨z_ci157, ⟨z_ci158, ⟨z_ci159, ⟨z_ci160, ⟨z_ci161, ⟨z_ci162, ⟨z_ci163, ⟨z_ci164, ⟨z_ci165, ⟨z_ci166, ⟨z_ci167, ⟨z_ci168, ⟨z_ci169, ⟨z_ci170, ⟨z_ci171, ⟨z_ci172, ⟨z_ci173, ⟨z_ci174, ⟨z_ci175, ⟨z_ci176, ⟨z_ci177, ⟨z_ci178, ⟨z_ci179, ⟨z_ci180, ⟨z_ci181, ⟨z_ci182, ⟨z_ci183, ⟨z_ci184, ⟨z_ci185, ⟨z_ci186, ⟨z_ci187, ⟨z_ci188, ⟨z_ci189, ⟨z_ci190, ⟨z_ci191, ⟨z_ci192, ⟨z_ci193, ⟨z_ci194, ⟨z_ci195, ⟨z_ci196, ⟨z_ci197, ⟨z_ci198, ⟨z_ci199, ⟨z_ci200, ⟨z_ci201, ⟨z_ci202, ⟨z_ci203, ⟨z_ci204, ⟨z_ci205, ⟨z_ci206, ⟨z_ci207, ⟨z_ci208, ⟨z_ci209, ⟨z_ci210, ⟨z_ci211, ⟨z_ci212, ⟨z_ci213, ⟨z_ci214, ⟨z_ci215, ⟨z_ci216, ⟨z_ci217, ⟨z_ci218, ⟨z_ci219, ⟨z_ci220, ⟨z_ci221, ⟨z_ci222, ⟨z_ci223, ⟨z_ci224, ⟨z_ci225, ⟨z_ci226, ⟨z_ci227, ⟨z_ci228, ⟨z_ci229, ⟨z_ci230, ⟨z_ci231, ⟨z_ci232, ⟨z_ci233, True.intro⟩⟩⟩⟩⟩⟩⟩⟩⟩⟩⟩⟩⟩⟩⟩⟩⟩⟩⟩⟩⟩⟩⟩⟩⟩⟩⟩⟩⟩⟩⟩⟩⟩⟩⟩⟩⟩⟩⟩⟩⟩⟩⟩⟩⟩⟩⟩⟩⟩⟩⟩⟩⟩⟩⟩⟩⟩⟩⟩⟩⟩⟩⟩⟩⟩⟩⟩⟩⟩⟩⟩⟩⟩⟩⟩⟩⟩⟩⟩⟩⟩⟩⟩⟩⟩⟩⟩⟩⟩⟩⟩⟩⟩⟩⟩⟩⟩⟩⟩⟩⟩⟩⟩⟩⟩⟩⟩⟩⟩⟩⟩⟩⟩⟩⟩⟩⟩⟩⟩⟩⟩⟩⟩⟩⟩⟩⟩⟩⟩⟩⟩⟩⟩⟩⟩⟩⟩⟩⟩⟩⟩⟩⟩⟩⟩⟩⟩⟩⟩⟩⟩⟩⟩⟩⟩⟩⟩⟩⟩⟩⟩⟩⟩⟩⟩⟩⟩⟩⟩⟩⟩⟩⟩⟩⟩⟩⟩⟩⟩⟩⟩⟩⟩⟩⟩⟩⟩⟩⟩⟩⟩⟩⟩⟩⟩⟩⟩⟩⟩⟩⟩⟩⟩⟩⟩⟩⟩⟩⟩⟩⟩⟩⟩⟩⟩⟩⟩⟩⟩⟩⟩⟩⟩⟩⟩⟩⟩⟩⟩⟩⟩⟩⟩⟩
