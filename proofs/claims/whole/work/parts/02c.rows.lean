noncomputable def cds : List (List Rw) := [k0, k1, k2, k3, k4, k5, k6, k7, k8, k9, k10, k11, k12, k13, k14, k15, k16, k17, k18, k19, k20, k21, k22, k23, k24, k25, k26, k27, k28, k29, k30, k31, k32, k33, k34, k35, k36, k37, k38, k39, k40, k41, k42, k43, k44, k45, k46, k47, k48, k49, k50, k51, k52, k53, k54, k55, k56, k57, k58, k59, k60, k61, k62, k63, k64, k65, k66, k67, k68, k69, k70, k71, k72, k73, k74, k75, k76, k77, k78, k79, k80, k81, k82, k83, k84, k85, k86, k87, k88, k89, k90, k91, k92, k93, k94, k95, k96, k97, k98, k99, k100, k101, k102, k103, k104, k105, k106, k107, k108, k109, k110, k111, k112, k113, k114, k115, k116, k117, k118, k119, k120, k121, k122, k123, k124, k125, k126, k127, k128, k129, k130, k131, k132, k133, k134, k135, k136, k137, k138, k139, k140, k141, k142, k143, k144, k145, k146, k147, k148, k149, k150, k151, k152, k153, k154, k155, k156, k157, k158, k159, k160, k161, k162, k163, k164, k165, k166, k167, k168, k169, k170, k171, k172, k173, k174, k175, k176, k177, k178, k179, k180, k181, k182, k183, k184, k185, k186, k187, k188, k189, k190, k191, k192, k193, k194, k195, k196, k197, k198, k199, k200, k201, k202, k203, k204, k205, k206, k207, k208, k209, k210, k211, k212, k213, k214, k215, k216, k217, k218, k219, k220, k221, k222, k223, k224, k225, k226, k227, k228, k229, k230, k231, k232, k233, k234, k235, k236, k237, k238, k239, k240, k241, k242, k243, k244, k245, k246, k247, k248, k249, k250, k251, k252, k253, k254, k255, k256, k257, k258, k259, k260, k261, k262, k263, k264, k265, k266, k267, k268, k269, k270, k271, k272, k273, k274, k275, k276, k277, k278, k279, k280, k281, k282, k283, k284, k285, k286, k287, k288, k289, k290, k291, k292, k293, k294, k295, k296, k297, k298, k299, k300, k301, k302, k303, k304, k305, k306, k307]
noncomputable def cd (t : Nat) : List Rw := cds.getD t []
/-- what stands of a row of the code -/
def rowP (t : Nat) (k : List Rw) : Prop := ∀ (i : Nat) (r : Rw), k[i]? = some r → okR t k i r = true ∧ ((r.2.2.1 < 60 ∨ r.2.2.1 = 61 ∨ r.2.2.1 = 63) → decode (bOf t) r.1 = .ok (toI r, r.2.1))
theorem rowP_of {t : Nat} {k : List Rw} (h1 : okK t k = true) (h2 : (told k).map (fun r => decode (bOf t) r.1) = (told k).map (fun r => .ok (toI r, r.2.1))) : rowP t k := by
  intro i r hr
  have hi : i < k.length := (List.getElem?_eq_some_iff.mp hr).1
  refine ⟨?_, fun ho => ?_⟩
  · have h := List.all_eq_true.mp h1 i (List.mem_range.mpr hi)
    have e : k.getD i (0, 0, 0, 0, 0, 0) = r := by simp [List.getD, hr]
    rw [e] at h
    exact h
  · exact List.map_inj_left.mp h2 r (List.mem_filter.mpr ⟨List.mem_of_getElem? hr, by simpa using ho⟩)
theorem rowP_law : rowP 307 k307 := by
  intro i r hr
  have hi : i < k307.length := (List.getElem?_eq_some_iff.mp hr).1
  rw [k307_len] at hi
  have e : rowAt k307 i = r := by simp [rowAt, List.getD, hr]
  refine ⟨?_, fun ho => ?_⟩
  · have key : ∀ j a m, j = a → i < a + m → a ≤ i → ((List.range m).all fun i => okR 307 k307 (a + i) (rowAt k307 (a + i))) = true → okR 307 k307 i r = true := by
      intro j a m _ h1 h2 h3
      have h := List.all_eq_true.mp h3 (i - a) (List.mem_range.mpr (by omega))
      rw [show a + (i - a) = i by omega, e] at h
      exact h
    have hc : (0 ≤ i ∧ i < 50) ∨ (50 ≤ i ∧ i < 100) ∨ (100 ≤ i ∧ i < 150) ∨ (150 ≤ i ∧ i < 200) ∨ (200 ≤ i ∧ i < 250) ∨ (250 ≤ i ∧ i < 300) ∨ (300 ≤ i ∧ i < 350) ∨ (350 ≤ i ∧ i < 400) ∨ (400 ≤ i ∧ i < 450) ∨ (450 ≤ i ∧ i < 500) ∨ (500 ≤ i ∧ i < 550) ∨ (550 ≤ i ∧ i < 600) ∨ (600 ≤ i ∧ i < 650) ∨ (650 ≤ i ∧ i < 700) ∨ (700 ≤ i ∧ i < 750) ∨ (750 ≤ i ∧ i < 800) ∨ (800 ≤ i ∧ i < 850) ∨ (850 ≤ i ∧ i < 900) ∨ (900 ≤ i ∧ i < 950) ∨ (950 ≤ i ∧ i < 1000) ∨ (1000 ≤ i ∧ i < 1050) ∨ (1050 ≤ i ∧ i < 1100) ∨ (1100 ≤ i ∧ i < 1150) ∨ (1150 ≤ i ∧ i < 1200) ∨ (1200 ≤ i ∧ i < 1250) ∨ (1250 ≤ i ∧ i < 1300) ∨ (1300 ≤ i ∧ i < 1350) ∨ (1350 ≤ i ∧ i < 1400) ∨ (1400 ≤ i ∧ i < 1450) ∨ (1450 ≤ i ∧ i < 1479) := by omega
    rcases hc with hc | hc | hc | hc | hc | hc | hc | hc | hc | hc | hc | hc | hc | hc | hc | hc | hc | hc | hc | hc | hc | hc | hc | hc | hc | hc | hc | hc | hc | hc
    · exact key 0 0 50 rfl (by omega) hc.1 ok307_0
    · exact key 50 50 50 rfl (by omega) hc.1 ok307_1
    · exact key 100 100 50 rfl (by omega) hc.1 ok307_2
    · exact key 150 150 50 rfl (by omega) hc.1 ok307_3
    · exact key 200 200 50 rfl (by omega) hc.1 ok307_4
    · exact key 250 250 50 rfl (by omega) hc.1 ok307_5
    · exact key 300 300 50 rfl (by omega) hc.1 ok307_6
    · exact key 350 350 50 rfl (by omega) hc.1 ok307_7
    · exact key 400 400 50 rfl (by omega) hc.1 ok307_8
    · exact key 450 450 50 rfl (by omega) hc.1 ok307_9
    · exact key 500 500 50 rfl (by omega) hc.1 ok307_10
    · exact key 550 550 50 rfl (by omega) hc.1 ok307_11
    · exact key 600 600 50 rfl (by omega) hc.1 ok307_12
    · exact key 650 650 50 rfl (by omega) hc.1 ok307_13
    · exact key 700 700 50 rfl (by omega) hc.1 ok307_14
    · exact key 750 750 50 rfl (by omega) hc.1 ok307_15
    · exact key 800 800 50 rfl (by omega) hc.1 ok307_16
    · exact key 850 850 50 rfl (by omega) hc.1 ok307_17
    · exact key 900 900 50 rfl (by omega) hc.1 ok307_18
    · exact key 950 950 50 rfl (by omega) hc.1 ok307_19
    · exact key 1000 1000 50 rfl (by omega) hc.1 ok307_20
    · exact key 1050 1050 50 rfl (by omega) hc.1 ok307_21
    · exact key 1100 1100 50 rfl (by omega) hc.1 ok307_22
    · exact key 1150 1150 50 rfl (by omega) hc.1 ok307_23
    · exact key 1200 1200 50 rfl (by omega) hc.1 ok307_24
    · exact key 1250 1250 50 rfl (by omega) hc.1 ok307_25
    · exact key 1300 1300 50 rfl (by omega) hc.1 ok307_26
    · exact key 1350 1350 50 rfl (by omega) hc.1 ok307_27
    · exact key 1400 1400 50 rfl (by omega) hc.1 ok307_28
    · exact key 1450 1450 29 rfl (by omega) hc.1 ok307_29
  · have key : ∀ a, i < a + 25 → a ≤ i → (told ((k307.drop a).take 25)).map (fun r => decode code r.1) = (told ((k307.drop a).take 25)).map (fun r => .ok (toI r, r.2.1)) → decode code r.1 = .ok (toI r, r.2.1) := by
      intro a h1 h2 h3
      refine List.map_inj_left.mp h3 r (List.mem_filter.mpr ⟨?_, by simpa using ho⟩)
      have e2 : ((k307.drop a).take 25)[i - a]? = some r := by
        rw [List.getElem?_take_of_lt (by omega), List.getElem?_drop, show a + (i - a) = i by omega]
        exact hr
      exact List.mem_of_getElem? e2
    have hc : (0 ≤ i ∧ i < 25) ∨ (25 ≤ i ∧ i < 50) ∨ (50 ≤ i ∧ i < 75) ∨ (75 ≤ i ∧ i < 100) ∨ (100 ≤ i ∧ i < 125) ∨ (125 ≤ i ∧ i < 150) ∨ (150 ≤ i ∧ i < 175) ∨ (175 ≤ i ∧ i < 200) ∨ (200 ≤ i ∧ i < 225) ∨ (225 ≤ i ∧ i < 250) ∨ (250 ≤ i ∧ i < 275) ∨ (275 ≤ i ∧ i < 300) ∨ (300 ≤ i ∧ i < 325) ∨ (325 ≤ i ∧ i < 350) ∨ (350 ≤ i ∧ i < 375) ∨ (375 ≤ i ∧ i < 400) ∨ (400 ≤ i ∧ i < 425) ∨ (425 ≤ i ∧ i < 450) ∨ (450 ≤ i ∧ i < 475) ∨ (475 ≤ i ∧ i < 500) ∨ (500 ≤ i ∧ i < 525) ∨ (525 ≤ i ∧ i < 550) ∨ (550 ≤ i ∧ i < 575) ∨ (575 ≤ i ∧ i < 600) ∨ (600 ≤ i ∧ i < 625) ∨ (625 ≤ i ∧ i < 650) ∨ (650 ≤ i ∧ i < 675) ∨ (675 ≤ i ∧ i < 700) ∨ (700 ≤ i ∧ i < 725) ∨ (725 ≤ i ∧ i < 750) ∨ (750 ≤ i ∧ i < 775) ∨ (775 ≤ i ∧ i < 800) ∨ (800 ≤ i ∧ i < 825) ∨ (825 ≤ i ∧ i < 850) ∨ (850 ≤ i ∧ i < 875) ∨ (875 ≤ i ∧ i < 900) ∨ (900 ≤ i ∧ i < 925) ∨ (925 ≤ i ∧ i < 950) ∨ (950 ≤ i ∧ i < 975) ∨ (975 ≤ i ∧ i < 1000) ∨ (1000 ≤ i ∧ i < 1025) ∨ (1025 ≤ i ∧ i < 1050) ∨ (1050 ≤ i ∧ i < 1075) ∨ (1075 ≤ i ∧ i < 1100) ∨ (1100 ≤ i ∧ i < 1125) ∨ (1125 ≤ i ∧ i < 1150) ∨ (1150 ≤ i ∧ i < 1175) ∨ (1175 ≤ i ∧ i < 1200) ∨ (1200 ≤ i ∧ i < 1225) ∨ (1225 ≤ i ∧ i < 1250) ∨ (1250 ≤ i ∧ i < 1275) ∨ (1275 ≤ i ∧ i < 1300) ∨ (1300 ≤ i ∧ i < 1325) ∨ (1325 ≤ i ∧ i < 1350) ∨ (1350 ≤ i ∧ i < 1375) ∨ (1375 ≤ i ∧ i < 1400) ∨ (1400 ≤ i ∧ i < 1425) ∨ (1425 ≤ i ∧ i < 1450) ∨ (1450 ≤ i ∧ i < 1475) ∨ (1475 ≤ i ∧ i < 1500) := by omega
    show decode code r.1 = _
    rcases hc with hc | hc | hc | hc | hc | hc | hc | hc | hc | hc | hc | hc | hc | hc | hc | hc | hc | hc | hc | hc | hc | hc | hc | hc | hc | hc | hc | hc | hc | hc | hc | hc | hc | hc | hc | hc | hc | hc | hc | hc | hc | hc | hc | hc | hc | hc | hc | hc | hc | hc | hc | hc | hc | hc | hc | hc | hc | hc | hc | hc
    · exact key 0 (by omega) hc.1 dk307_0
    · exact key 25 (by omega) hc.1 dk307_1
    · exact key 50 (by omega) hc.1 dk307_2
    · exact key 75 (by omega) hc.1 dk307_3
    · exact key 100 (by omega) hc.1 dk307_4
    · exact key 125 (by omega) hc.1 dk307_5
    · exact key 150 (by omega) hc.1 dk307_6
    · exact key 175 (by omega) hc.1 dk307_7
    · exact key 200 (by omega) hc.1 dk307_8
    · exact key 225 (by omega) hc.1 dk307_9
    · exact key 250 (by omega) hc.1 dk307_10
    · exact key 275 (by omega) hc.1 dk307_11
    · exact key 300 (by omega) hc.1 dk307_12
    · exact key 325 (by omega) hc.1 dk307_13
    · exact key 350 (by omega) hc.1 dk307_14
    · exact key 375 (by omega) hc.1 dk307_15
    · exact key 400 (by omega) hc.1 dk307_16
    · exact key 425 (by omega) hc.1 dk307_17
    · exact key 450 (by omega) hc.1 dk307_18
    · exact key 475 (by omega) hc.1 dk307_19
    · exact key 500 (by omega) hc.1 dk307_20
    · exact key 525 (by omega) hc.1 dk307_21
    · exact key 550 (by omega) hc.1 dk307_22
    · exact key 575 (by omega) hc.1 dk307_23
    · exact key 600 (by omega) hc.1 dk307_24
    · exact key 625 (by omega) hc.1 dk307_25
    · exact key 650 (by omega) hc.1 dk307_26
    · exact key 675 (by omega) hc.1 dk307_27
    · exact key 700 (by omega) hc.1 dk307_28
    · exact key 725 (by omega) hc.1 dk307_29
    · exact key 750 (by omega) hc.1 dk307_30
    · exact key 775 (by omega) hc.1 dk307_31
    · exact key 800 (by omega) hc.1 dk307_32
    · exact key 825 (by omega) hc.1 dk307_33
    · exact key 850 (by omega) hc.1 dk307_34
    · exact key 875 (by omega) hc.1 dk307_35
    · exact key 900 (by omega) hc.1 dk307_36
    · exact key 925 (by omega) hc.1 dk307_37
    · exact key 950 (by omega) hc.1 dk307_38
    · exact key 975 (by omega) hc.1 dk307_39
    · exact key 1000 (by omega) hc.1 dk307_40
    · exact key 1025 (by omega) hc.1 dk307_41
    · exact key 1050 (by omega) hc.1 dk307_42
    · exact key 1075 (by omega) hc.1 dk307_43
    · exact key 1100 (by omega) hc.1 dk307_44
    · exact key 1125 (by omega) hc.1 dk307_45
    · exact key 1150 (by omega) hc.1 dk307_46
    · exact key 1175 (by omega) hc.1 dk307_47
    · exact key 1200 (by omega) hc.1 dk307_48
    · exact key 1225 (by omega) hc.1 dk307_49
    · exact key 1250 (by omega) hc.1 dk307_50
    · exact key 1275 (by omega) hc.1 dk307_51
    · exact key 1300 (by omega) hc.1 dk307_52
    · exact key 1325 (by omega) hc.1 dk307_53
    · exact key 1350 (by omega) hc.1 dk307_54
    · exact key 1375 (by omega) hc.1 dk307_55
    · exact key 1400 (by omega) hc.1 dk307_56
    · exact key 1425 (by omega) hc.1 dk307_57
    · exact key 1450 (by omega) hc.1 dk307_58
    · exact key 1475 (by omega) hc.1 dk307_59
set_option maxRecDepth 100000 in
theorem rows_ok : ∀ t, t < 308 → rowP t (cd t) := fun t h => by
  have e : allP (fun t => rowP t (cd t)) (List.range 308) := ⟨rowP_of ok0 dk0, rowP_of ok1 dk1, rowP_of ok2 dk2, rowP_of ok3 dk3, rowP_of ok4 dk4, rowP_of ok5 dk5, rowP_of ok6 dk6, rowP_of ok7 dk7, rowP_of ok8 dk8, rowP_of ok9 dk9, rowP_of ok10 dk10, rowP_of ok11 dk11, rowP_of ok12 dk12, rowP_of ok13 dk13, rowP_of ok14 dk14, rowP_of ok15 dk15, rowP_of ok16 dk16, rowP_of ok17 dk17, rowP_of ok18 dk18, rowP_of ok19 dk19, rowP_of ok20 dk20, rowP_of ok21 dk21, rowP_of ok22 dk22, rowP_of ok23 dk23, rowP_of ok24 dk24, rowP_of ok25 dk25, rowP_of ok26 dk26, rowP_of ok27 dk27, rowP_of ok28 dk28, rowP_of ok29 dk29, rowP_of ok30 dk30, rowP_of ok31 dk31, rowP_of ok32 dk32, rowP_of ok33 dk33, rowP_of ok34 dk34, rowP_of ok35 dk35, rowP_of ok36 dk36, rowP_of ok37 dk37, rowP_of ok38 dk38, rowP_of ok39 dk39, rowP_of ok40 dk40, rowP_of ok41 dk41, rowP_of ok42 dk42, rowP_of ok43 dk43, rowP_of ok44 dk44, rowP_of ok45 dk45, rowP_of ok46 dk46, rowP_of ok47 dk47, rowP_of ok48 dk48, rowP_of ok49 dk49, rowP_of ok50 dk50, rowP_of ok51 dk51, rowP_of ok52 dk52, rowP_of ok53 dk53, rowP_of ok54 dk54, rowP_of ok55 dk55, rowP_of ok56 dk56, rowP_of ok57 dk57, rowP_of ok58 dk58, rowP_of ok59 dk59, rowP_of ok60 dk60, rowP_of ok61 dk61, rowP_of ok62 dk62, rowP_of ok63 dk63, rowP_of ok64 dk64, rowP_of ok65 dk65, rowP_of ok66 dk66, rowP_of ok67 dk67, rowP_of ok68 dk68, rowP_of ok69 dk69, rowP_of ok70 dk70, rowP_of ok71 dk71, rowP_of ok72 dk72, rowP_of ok73 dk73, rowP_of ok74 dk74, rowP_of ok75 dk75, rowP_of ok76 dk76, rowP_of ok77 dk77, rowP_of ok78 dk78, rowP_of ok79 dk79, rowP_of ok80 dk80, rowP_of ok81 dk81, rowP_of ok82 dk82, rowP_of ok83 dk83, rowP_of ok84 dk84, rowP_of ok85 dk85, rowP_of ok86 dk86, rowP_of ok87 dk87, rowP_of ok88 dk88, rowP_of ok89 dk89, rowP_of ok90 dk90, rowP_of ok91 dk91, rowP_of ok92 dk92, rowP_of ok93 dk93, rowP_of ok94 dk94, rowP_of ok95 dk95, rowP_of ok96 dk96, rowP_of ok97 dk97, rowP_of ok98 dk98, rowP_of ok99 dk99, rowP_of ok100 dk100, rowP_of ok101 dk101, rowP_of ok102 dk102, rowP_of ok103 dk103, rowP_of ok104 dk104, rowP_of ok105 dk105, rowP_of ok106 dk106, rowP_of ok107 dk107, rowP_of ok108 dk108, rowP_of ok109 dk109, rowP_of ok110 dk110, rowP_of ok111 dk111, rowP_of ok112 dk112, rowP_of ok113 dk113, rowP_of ok114 dk114, rowP_of ok115 dk115, rowP_of ok116 dk116, rowP_of ok117 dk117, rowP_of ok118 dk118, rowP_of ok119 dk119, rowP_of ok120 dk120, rowP_of ok121 dk121, rowP_of ok122 dk122, rowP_of ok123 dk123, rowP_of ok124 dk124, rowP_of ok125 dk125, rowP_of ok126 dk126, rowP_of ok127 dk127, rowP_of ok128 dk128, rowP_of ok129 dk129, rowP_of ok130 dk130, rowP_of ok131 dk131, rowP_of ok132 dk132, rowP_of ok133 dk133, rowP_of ok134 dk134, rowP_of ok135 dk135, rowP_of ok136 dk136, rowP_of ok137 dk137, rowP_of ok138 dk138, rowP_of ok139 dk139, rowP_of ok140 dk140, rowP_of ok141 dk141, rowP_of ok142 dk142, rowP_of ok143 dk143, rowP_of ok144 dk144, rowP_of ok145 dk145, rowP_of ok146 dk146, rowP_of ok147 dk147, rowP_of ok148 dk148, rowP_of ok149 dk149, rowP_of ok150 dk150, rowP_of ok151 dk151, rowP_of ok152 dk152, rowP_of ok153 dk153, rowP_of ok154 dk154, rowP_of ok155 dk155, rowP_of ok156 dk156, rowP_of ok157 dk157, rowP_of ok158 dk158, rowP_of ok159 dk159, rowP_of ok160 dk160, rowP_of ok161 dk161, rowP_of ok162 dk162, rowP_of ok163 dk163, rowP_of ok164 dk164, rowP_of ok165 dk165, rowP_of ok166 dk166, rowP_of ok167 dk167, rowP_of ok168 dk168, rowP_of ok169 dk169, rowP_of ok170 dk170, rowP_of ok171 dk171, rowP_of ok172 dk172, rowP_of ok173 dk173, rowP_of ok174 dk174, rowP_of ok175 dk175, rowP_of ok176 dk176, rowP_of ok177 dk177, rowP_of ok178 dk178, rowP_of ok179 dk179, rowP_of ok180 dk180, rowP_of ok181 dk181, rowP_of ok182 dk182, rowP_of ok183 dk183, rowP_of ok184 dk184, rowP_of ok185 dk185, rowP_of ok186 dk186, rowP_of ok187 dk187, rowP_of ok188 dk188, rowP_of ok189 dk189, rowP_of ok190 dk190, rowP_of ok191 dk191, rowP_of ok192 dk192, rowP_of ok193 dk193, rowP_of ok194 dk194, rowP_of ok195 dk195, rowP_of ok196 dk196, rowP_of ok197 dk197, rowP_of ok198 dk198, rowP_of ok199 dk199, rowP_of ok200 dk200, rowP_of ok201 dk201, rowP_of ok202 dk202, rowP_of ok203 dk203, rowP_of ok204 dk204, rowP_of ok205 dk205, rowP_of ok206 dk206, rowP_of ok207 dk207, rowP_of ok208 dk208, rowP_of ok209 dk209, rowP_of ok210 dk210, rowP_of ok211 dk211, rowP_of ok212 dk212, rowP_of ok213 dk213, rowP_of ok214 dk214, rowP_of ok215 dk215, rowP_of ok216 dk216, rowP_of ok217 dk217, rowP_of ok218 dk218, rowP_of ok219 dk219, rowP_of ok220 dk220, rowP_of ok221 dk221, rowP_of ok222 dk222, rowP_of ok223 dk223, rowP_of ok224 dk224, rowP_of ok225 dk225, rowP_of ok226 dk226, rowP_of ok227 dk227, rowP_of ok228 dk228, rowP_of ok229 dk229, rowP_of ok230 dk230, rowP_of ok231 dk231, rowP_of ok232 dk232, rowP_of ok233 dk233, rowP_of ok234 dk234, rowP_of ok235 dk235, rowP_of ok236 dk236, rowP_of ok237 dk237, rowP_of ok238 dk238, rowP_of ok239 dk239, rowP_of ok240 dk240, rowP_of ok241 dk241, rowP_of ok242 dk242, rowP_of ok243 dk243, rowP_of ok244 dk244, rowP_of ok245 dk245, rowP_of ok246 dk246, rowP_of ok247 dk247, rowP_of ok248 dk248, rowP_of ok249 dk249, rowP_of ok250 dk250, rowP_of ok251 dk251, rowP_of ok252 dk252, rowP_of ok253 dk253, rowP_of ok254 dk254, rowP_of ok255 dk255, rowP_of ok256 dk256, rowP_of ok257 dk257, rowP_of ok258 dk258, rowP_of ok259 dk259, rowP_of ok260 dk260, rowP_of ok261 dk261, rowP_of ok262 dk262, rowP_of ok263 dk263, rowP_of ok264 dk264, rowP_of ok265 dk265, rowP_of ok266 dk266, rowP_of ok267 dk267, rowP_of ok268 dk268, rowP_of ok269 dk269, rowP_of ok270 dk270, rowP_of ok271 dk271, rowP_of ok272 dk272, rowP_of ok273 dk273, rowP_of ok274 dk274, rowP_of ok275 dk275, rowP_of ok276 dk276, rowP_of ok277 dk277, rowP_of ok278 dk278, rowP_of ok279 dk279, rowP_of ok280 dk280, rowP_of ok281 dk281, rowP_of ok282 dk282, rowP_of ok283 dk283, rowP_of ok284 dk284, rowP_of ok285 dk285, rowP_of ok286 dk286, rowP_of ok287 dk287, rowP_of ok288 dk288, rowP_of ok289 dk289, rowP_of ok290 dk290, rowP_of ok291 dk291, rowP_of ok292 dk292, rowP_of ok293 dk293, rowP_of ok294 dk294, rowP_of ok295 dk295, rowP_of ok296 dk296, rowP_of ok297 dk297, rowP_of ok298 dk298, rowP_of ok299 dk299, rowP_of ok300 dk300, rowP_of ok301 dk301, rowP_of ok302 dk302, rowP_of ok303 dk303, rowP_of ok304 dk304, rowP_of ok305 dk305, rowP_of ok306 dk306, rowP_law, trivial⟩
  exact allP_at e t t (by rw [List.getElem?_range h])
