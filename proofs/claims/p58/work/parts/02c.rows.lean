noncomputable def cds : List (List Rw) := [k0, k1, k2, k3, k4, k5, k6, k7, k8, k9, k10, k11, k12, k13, k14, k15, k16, k17, k18, k19, k20, k21, k22, k23, k24, k25, k26, k27, k28, k29, k30, k31, k32, k33, k34, k35, k36, k37, k38, k39, k40, k41, k42, k43, k44, k45, k46, k47, k48, k49, k50, k51, k52, k53, k54, k55, k56, k57, k58, k59, k60, k61, k62, k63, k64, k65, k66, k67, k68, k69, k70, k71, k72, k73, k74, k75, k76, k77, k78, k79, k80, k81, k82, k83, k84, k85, k86, k87, k88, k89, k90, k91, k92, k93, k94, k95, k96, k97, k98, k99, k100, k101, k102, k103, k104, k105, k106, k107, k108, k109, k110, k111, k112, k113, k114, k115, k116, k117, k118, k119, k120, k121, k122, k123, k124, k125, k126, k127, k128, k129, k130, k131, k132, k133, k134, k135, k136, k137, k138, k139, k140, k141, k142, k143, k144, k145, k146, k147, k148, k149, k150, k151, k152, k153, k154, k155, k156, k157, k158, k159, k160, k161, k162, k163, k164, k165, k166, k167, k168, k169, k170, k171, k172, k173, k174, k175, k176, k177, k178, k179, k180, k181, k182, k183, k184, k185, k186, k187, k188, k189, k190, k191, k192, k193, k194, k195, k196, k197, k198, k199, k200, k201, k202, k203, k204, k205, k206, k207, k208, k209, k210, k211, k212, k213, k214, k215, k216, k217, k218, k219, k220, k221, k222, k223, k224, k225, k226, k227, k228, k229, k230, k231, k232, k233, k234, k235, k236, k237, k238, k239, k240, k241, k242, k243, k244, k245, k246, k247, k248, k249, k250, k251, k252, k253, k254, k255, k256, k257, k258, k259, k260, k261, k262, k263, k264, k265, k266, k267, k268, k269, k270, k271, k272, k273, k274, k275, k276, k277, k278, k279, k280, k281, k282, k283, k284, k285, k286, k287, k288, k289, k290, k291, k292, k293, k294, k295, k296, k297, k298, k299, k300, k301, k302, k303, k304, k305, k306, k307]
noncomputable def cd (t : Nat) : List Rw := cds.getD t []
/-- what stands of a row of the code -/
def rowP (t : Nat) (k : List Rw) : Prop := ∀ (i : Nat) (r : Rw), k[i]? = some r → okR t k i r = true ∧ ((r.2.2.1 < 60 ∨ (61 ≤ r.2.2.1 ∧ r.2.2.1 ≤ 63)) → decode (bOf t) r.1 = .ok (toI r, r.2.1))
theorem rowP_of {t : Nat} {k : List Rw} (h1 : okK t k = true) (h2 : (told k).map (fun r => decode (bOf t) r.1) = (told k).map (fun r => .ok (toI r, r.2.1))) : rowP t k := by
  intro i r hr
  have hi : i < k.length := (List.getElem?_eq_some_iff.mp hr).1
  refine ⟨?_, fun ho => ?_⟩
  · have h := List.all_eq_true.mp h1 i (List.mem_range.mpr hi)
    have e : k.getD i (0, 0, 0, 0, 0, 0) = r := by simp [List.getD, hr]
    rw [e] at h
    exact h
  · exact List.map_inj_left.mp h2 r (List.mem_filter.mpr ⟨List.mem_of_getElem? hr, by simpa using ho⟩)
theorem rowP_law : rowP 307 k307 := by
  intro i r hr
  have hi : i < k307.length := (List.getElem?_eq_some_iff.mp hr).1
  rw [k307_len] at hi
  have e : rowAt k307 i = r := by simp [rowAt, List.getD, hr]
  refine ⟨?_, fun ho => ?_⟩
  · have key : ∀ j a m, j = a → i < a + m → a ≤ i → ((List.range m).all fun i => okR 307 k307 (a + i) (rowAt k307 (a + i))) = true → okR 307 k307 i r = true := by
      intro j a m _ h1 h2 h3
      have h := List.all_eq_true.mp h3 (i - a) (List.mem_range.mpr (by omega))
      rw [show a + (i - a) = i by omega, e] at h
      exact h
    have hc : (0 ≤ i ∧ i < 50) ∨ (50 ≤ i ∧ i < 100) ∨ (100 ≤ i ∧ i < 150) ∨ (150 ≤ i ∧ i < 200) ∨ (200 ≤ i ∧ i < 250) ∨ (250 ≤ i ∧ i < 300) ∨ (300 ≤ i ∧ i < 350) ∨ (350 ≤ i ∧ i < 400) ∨ (400 ≤ i ∧ i < 450) ∨ (450 ≤ i ∧ i < 500) ∨ (500 ≤ i ∧ i < 550) ∨ (550 ≤ i ∧ i < 600) ∨ (600 ≤ i ∧ i < 606) := by omega
    rcases hc with hc | hc | hc | hc | hc | hc | hc | hc | hc | hc | hc | hc | hc
    · exact key 0 0 50 rfl (by omega) hc.1 ok307_0
    · exact key 50 50 50 rfl (by omega) hc.1 ok307_1
    · exact key 100 100 50 rfl (by omega) hc.1 ok307_2
    · exact key 150 150 50 rfl (by omega) hc.1 ok307_3
    · exact key 200 200 50 rfl (by omega) hc.1 ok307_4
    · exact key 250 250 50 rfl (by omega) hc.1 ok307_5
    · exact key 300 300 50 rfl (by omega) hc.1 ok307_6
    · exact key 350 350 50 rfl (by omega) hc.1 ok307_7
    · exact key 400 400 50 rfl (by omega) hc.1 ok307_8
    · exact key 450 450 50 rfl (by omega) hc.1 ok307_9
    · exact key 500 500 50 rfl (by omega) hc.1 ok307_10
    · exact key 550 550 50 rfl (by omega) hc.1 ok307_11
    · exact key 600 600 6 rfl (by omega) hc.1 ok307_12
  · have key : ∀ a, i < a + 25 → a ≤ i → (told ((k307.drop a).take 25)).map (fun r => decode code r.1) = (told ((k307.drop a).take 25)).map (fun r => .ok (toI r, r.2.1)) → decode code r.1 = .ok (toI r, r.2.1) := by
      intro a h1 h2 h3
      refine List.map_inj_left.mp h3 r (List.mem_filter.mpr ⟨?_, by simpa using ho⟩)
      have e2 : ((k307.drop a).take 25)[i - a]? = some r := by
        rw [List.getElem?_take_of_lt (by omega), List.getElem?_drop, show a + (i - a) = i by omega]
        exact hr
      exact List.mem_of_getElem? e2
    have hc : (0 ≤ i ∧ i < 25) ∨ (25 ≤ i ∧ i < 50) ∨ (50 ≤ i ∧ i < 75) ∨ (75 ≤ i ∧ i < 100) ∨ (100 ≤ i ∧ i < 125) ∨ (125 ≤ i ∧ i < 150) ∨ (150 ≤ i ∧ i < 175) ∨ (175 ≤ i ∧ i < 200) ∨ (200 ≤ i ∧ i < 225) ∨ (225 ≤ i ∧ i < 250) ∨ (250 ≤ i ∧ i < 275) ∨ (275 ≤ i ∧ i < 300) ∨ (300 ≤ i ∧ i < 325) ∨ (325 ≤ i ∧ i < 350) ∨ (350 ≤ i ∧ i < 375) ∨ (375 ≤ i ∧ i < 400) ∨ (400 ≤ i ∧ i < 425) ∨ (425 ≤ i ∧ i < 450) ∨ (450 ≤ i ∧ i < 475) ∨ (475 ≤ i ∧ i < 500) ∨ (500 ≤ i ∧ i < 525) ∨ (525 ≤ i ∧ i < 550) ∨ (550 ≤ i ∧ i < 575) ∨ (575 ≤ i ∧ i < 600) ∨ (600 ≤ i ∧ i < 625) := by omega
    show decode code r.1 = _
    rcases hc with hc | hc | hc | hc | hc | hc | hc | hc | hc | hc | hc | hc | hc | hc | hc | hc | hc | hc | hc | hc | hc | hc | hc | hc | hc
    · exact key 0 (by omega) hc.1 dk307_0
    · exact key 25 (by omega) hc.1 dk307_1
    · exact key 50 (by omega) hc.1 dk307_2
    · exact key 75 (by omega) hc.1 dk307_3
    · exact key 100 (by omega) hc.1 dk307_4
    · exact key 125 (by omega) hc.1 dk307_5
    · exact key 150 (by omega) hc.1 dk307_6
    · exact key 175 (by omega) hc.1 dk307_7
    · exact key 200 (by omega) hc.1 dk307_8
    · exact key 225 (by omega) hc.1 dk307_9
    · exact key 250 (by omega) hc.1 dk307_10
    · exact key 275 (by omega) hc.1 dk307_11
    · exact key 300 (by omega) hc.1 dk307_12
    · exact key 325 (by omega) hc.1 dk307_13
    · exact key 350 (by omega) hc.1 dk307_14
    · exact key 375 (by omega) hc.1 dk307_15
    · exact key 400 (by omega) hc.1 dk307_16
    · exact key 425 (by omega) hc.1 dk307_17
    · exact key 450 (by omega) hc.1 dk307_18
    · exact key 475 (by omega) hc.1 dk307_19
    · exact key 500 (by omega) hc.1 dk307_20
    · exact key 525 (by omega) hc.1 dk307_21
    · exact key 550 (by omega) hc.1 dk307_22
    · exact key 575 (by omega) hc.1 dk307_23
    · exact key 600 (by omega) hc.1 dk307_24
theorem rv0 : vOf 0 = true → rowP 0 (cd 0) := fun _ => rowP_of ok0 dk0
theorem rv1 : vOf 1 = true → rowP 1 (cd 1) := fun _ => rowP_of ok1 dk1
theorem rv2 : vOf 2 = true → rowP 2 (cd 2) := fun _ => rowP_of ok2 dk2
theorem rv3 : vOf 3 = true → rowP 3 (cd 3) := fun _ => rowP_of ok3 dk3
theorem rv4 : vOf 4 = true → rowP 4 (cd 4) := fun _ => rowP_of ok4 dk4
theorem rv5 : vOf 5 = true → rowP 5 (cd 5) := fun _ => rowP_of ok5 dk5
theorem rv6 : vOf 6 = true → rowP 6 (cd 6) := fun _ => rowP_of ok6 dk6
theorem rv7 : vOf 7 = true → rowP 7 (cd 7) := fun _ => rowP_of ok7 dk7
theorem rv8 : vOf 8 = true → rowP 8 (cd 8) := fun _ => rowP_of ok8 dk8
theorem rv9 : vOf 9 = true → rowP 9 (cd 9) := fun _ => rowP_of ok9 dk9
theorem rv10 : vOf 10 = true → rowP 10 (cd 10) := fun _ => rowP_of ok10 dk10
theorem rv11 : vOf 11 = true → rowP 11 (cd 11) := fun _ => rowP_of ok11 dk11
theorem rv12 : vOf 12 = true → rowP 12 (cd 12) := fun _ => rowP_of ok12 dk12
theorem rv13 : vOf 13 = true → rowP 13 (cd 13) := fun _ => rowP_of ok13 dk13
theorem rv14 : vOf 14 = true → rowP 14 (cd 14) := fun _ => rowP_of ok14 dk14
theorem rv17 : vOf 17 = true → rowP 17 (cd 17) := fun _ => rowP_of ok17 dk17
theorem rv18 : vOf 18 = true → rowP 18 (cd 18) := fun _ => rowP_of ok18 dk18
theorem rv19 : vOf 19 = true → rowP 19 (cd 19) := fun _ => rowP_of ok19 dk19
theorem rv20 : vOf 20 = true → rowP 20 (cd 20) := fun _ => rowP_of ok20 dk20
theorem rv21 : vOf 21 = true → rowP 21 (cd 21) := fun _ => rowP_of ok21 dk21
theorem rv22 : vOf 22 = true → rowP 22 (cd 22) := fun _ => rowP_of ok22 dk22
theorem rv23 : vOf 23 = true → rowP 23 (cd 23) := fun _ => rowP_of ok23 dk23
theorem rv24 : vOf 24 = true → rowP 24 (cd 24) := fun _ => rowP_of ok24 dk24
theorem rv25 : vOf 25 = true → rowP 25 (cd 25) := fun _ => rowP_of ok25 dk25
theorem rv26 : vOf 26 = true → rowP 26 (cd 26) := fun _ => rowP_of ok26 dk26
theorem rv27 : vOf 27 = true → rowP 27 (cd 27) := fun _ => rowP_of ok27 dk27
theorem rv28 : vOf 28 = true → rowP 28 (cd 28) := fun _ => rowP_of ok28 dk28
theorem rv29 : vOf 29 = true → rowP 29 (cd 29) := fun _ => rowP_of ok29 dk29
theorem rv30 : vOf 30 = true → rowP 30 (cd 30) := fun _ => rowP_of ok30 dk30
theorem rv31 : vOf 31 = true → rowP 31 (cd 31) := fun _ => rowP_of ok31 dk31
theorem rv32 : vOf 32 = true → rowP 32 (cd 32) := fun _ => rowP_of ok32 dk32
theorem rv33 : vOf 33 = true → rowP 33 (cd 33) := fun _ => rowP_of ok33 dk33
theorem rv34 : vOf 34 = true → rowP 34 (cd 34) := fun _ => rowP_of ok34 dk34
theorem rv35 : vOf 35 = true → rowP 35 (cd 35) := fun _ => rowP_of ok35 dk35
theorem rv36 : vOf 36 = true → rowP 36 (cd 36) := fun _ => rowP_of ok36 dk36
theorem rv37 : vOf 37 = true → rowP 37 (cd 37) := fun _ => rowP_of ok37 dk37
theorem rv38 : vOf 38 = true → rowP 38 (cd 38) := fun _ => rowP_of ok38 dk38
theorem rv39 : vOf 39 = true → rowP 39 (cd 39) := fun _ => rowP_of ok39 dk39
theorem rv40 : vOf 40 = true → rowP 40 (cd 40) := fun _ => rowP_of ok40 dk40
theorem rv41 : vOf 41 = true → rowP 41 (cd 41) := fun _ => rowP_of ok41 dk41
theorem rv42 : vOf 42 = true → rowP 42 (cd 42) := fun _ => rowP_of ok42 dk42
theorem rv43 : vOf 43 = true → rowP 43 (cd 43) := fun _ => rowP_of ok43 dk43
theorem rv44 : vOf 44 = true → rowP 44 (cd 44) := fun _ => rowP_of ok44 dk44
theorem rv45 : vOf 45 = true → rowP 45 (cd 45) := fun _ => rowP_of ok45 dk45
theorem rv46 : vOf 46 = true → rowP 46 (cd 46) := fun _ => rowP_of ok46 dk46
theorem rv47 : vOf 47 = true → rowP 47 (cd 47) := fun _ => rowP_of ok47 dk47
theorem rv50 : vOf 50 = true → rowP 50 (cd 50) := fun _ => rowP_of ok50 dk50
theorem rv51 : vOf 51 = true → rowP 51 (cd 51) := fun _ => rowP_of ok51 dk51
theorem rv52 : vOf 52 = true → rowP 52 (cd 52) := fun _ => rowP_of ok52 dk52
theorem rv53 : vOf 53 = true → rowP 53 (cd 53) := fun _ => rowP_of ok53 dk53
theorem rv54 : vOf 54 = true → rowP 54 (cd 54) := fun _ => rowP_of ok54 dk54
theorem rv55 : vOf 55 = true → rowP 55 (cd 55) := fun _ => rowP_of ok55 dk55
theorem rv56 : vOf 56 = true → rowP 56 (cd 56) := fun _ => rowP_of ok56 dk56
theorem rv57 : vOf 57 = true → rowP 57 (cd 57) := fun _ => rowP_of ok57 dk57
theorem rv58 : vOf 58 = true → rowP 58 (cd 58) := fun _ => rowP_of ok58 dk58
theorem rv59 : vOf 59 = true → rowP 59 (cd 59) := fun _ => rowP_of ok59 dk59
theorem rv63 : vOf 63 = true → rowP 63 (cd 63) := fun _ => rowP_of ok63 dk63
theorem rv65 : vOf 65 = true → rowP 65 (cd 65) := fun _ => rowP_of ok65 dk65
theorem rv66 : vOf 66 = true → rowP 66 (cd 66) := fun _ => rowP_of ok66 dk66
theorem rv67 : vOf 67 = true → rowP 67 (cd 67) := fun _ => rowP_of ok67 dk67
theorem rv68 : vOf 68 = true → rowP 68 (cd 68) := fun _ => rowP_of ok68 dk68
theorem rv69 : vOf 69 = true → rowP 69 (cd 69) := fun _ => rowP_of ok69 dk69
theorem rv70 : vOf 70 = true → rowP 70 (cd 70) := fun _ => rowP_of ok70 dk70
theorem rv71 : vOf 71 = true → rowP 71 (cd 71) := fun _ => rowP_of ok71 dk71
theorem rv74 : vOf 74 = true → rowP 74 (cd 74) := fun _ => rowP_of ok74 dk74
theorem rv75 : vOf 75 = true → rowP 75 (cd 75) := fun _ => rowP_of ok75 dk75
theorem rv76 : vOf 76 = true → rowP 76 (cd 76) := fun _ => rowP_of ok76 dk76
theorem rv77 : vOf 77 = true → rowP 77 (cd 77) := fun _ => rowP_of ok77 dk77
theorem rv78 : vOf 78 = true → rowP 78 (cd 78) := fun _ => rowP_of ok78 dk78
theorem rv79 : vOf 79 = true → rowP 79 (cd 79) := fun _ => rowP_of ok79 dk79
theorem rv80 : vOf 80 = true → rowP 80 (cd 80) := fun _ => rowP_of ok80 dk80
theorem rv81 : vOf 81 = true → rowP 81 (cd 81) := fun _ => rowP_of ok81 dk81
theorem rv82 : vOf 82 = true → rowP 82 (cd 82) := fun _ => rowP_of ok82 dk82
theorem rv83 : vOf 83 = true → rowP 83 (cd 83) := fun _ => rowP_of ok83 dk83
theorem rv84 : vOf 84 = true → rowP 84 (cd 84) := fun _ => rowP_of ok84 dk84
theorem rv85 : vOf 85 = true → rowP 85 (cd 85) := fun _ => rowP_of ok85 dk85
theorem rv86 : vOf 86 = true → rowP 86 (cd 86) := fun _ => rowP_of ok86 dk86
theorem rv87 : vOf 87 = true → rowP 87 (cd 87) := fun _ => rowP_of ok87 dk87
theorem rv88 : vOf 88 = true → rowP 88 (cd 88) := fun _ => rowP_of ok88 dk88
theorem rv89 : vOf 89 = true → rowP 89 (cd 89) := fun _ => rowP_of ok89 dk89
theorem rv90 : vOf 90 = true → rowP 90 (cd 90) := fun _ => rowP_of ok90 dk90
theorem rv91 : vOf 91 = true → rowP 91 (cd 91) := fun _ => rowP_of ok91 dk91
theorem rv92 : vOf 92 = true → rowP 92 (cd 92) := fun _ => rowP_of ok92 dk92
theorem rv93 : vOf 93 = true → rowP 93 (cd 93) := fun _ => rowP_of ok93 dk93
theorem rv94 : vOf 94 = true → rowP 94 (cd 94) := fun _ => rowP_of ok94 dk94
theorem rv95 : vOf 95 = true → rowP 95 (cd 95) := fun _ => rowP_of ok95 dk95
theorem rv96 : vOf 96 = true → rowP 96 (cd 96) := fun _ => rowP_of ok96 dk96
theorem rv97 : vOf 97 = true → rowP 97 (cd 97) := fun _ => rowP_of ok97 dk97
theorem rv98 : vOf 98 = true → rowP 98 (cd 98) := fun _ => rowP_of ok98 dk98
theorem rv99 : vOf 99 = true → rowP 99 (cd 99) := fun _ => rowP_of ok99 dk99
theorem rv100 : vOf 100 = true → rowP 100 (cd 100) := fun _ => rowP_of ok100 dk100
theorem rv101 : vOf 101 = true → rowP 101 (cd 101) := fun _ => rowP_of ok101 dk101
theorem rv102 : vOf 102 = true → rowP 102 (cd 102) := fun _ => rowP_of ok102 dk102
theorem rv104 : vOf 104 = true → rowP 104 (cd 104) := fun _ => rowP_of ok104 dk104
theorem rv105 : vOf 105 = true → rowP 105 (cd 105) := fun _ => rowP_of ok105 dk105
theorem rv106 : vOf 106 = true → rowP 106 (cd 106) := fun _ => rowP_of ok106 dk106
theorem rv107 : vOf 107 = true → rowP 107 (cd 107) := fun _ => rowP_of ok107 dk107
theorem rv108 : vOf 108 = true → rowP 108 (cd 108) := fun _ => rowP_of ok108 dk108
theorem rv109 : vOf 109 = true → rowP 109 (cd 109) := fun _ => rowP_of ok109 dk109
theorem rv110 : vOf 110 = true → rowP 110 (cd 110) := fun _ => rowP_of ok110 dk110
theorem rv111 : vOf 111 = true → rowP 111 (cd 111) := fun _ => rowP_of ok111 dk111
theorem rv112 : vOf 112 = true → rowP 112 (cd 112) := fun _ => rowP_of ok112 dk112
theorem rv113 : vOf 113 = true → rowP 113 (cd 113) := fun _ => rowP_of ok113 dk113
theorem rv114 : vOf 114 = true → rowP 114 (cd 114) := fun _ => rowP_of ok114 dk114
theorem rv115 : vOf 115 = true → rowP 115 (cd 115) := fun _ => rowP_of ok115 dk115
theorem rv116 : vOf 116 = true → rowP 116 (cd 116) := fun _ => rowP_of ok116 dk116
theorem rv122 : vOf 122 = true → rowP 122 (cd 122) := fun _ => rowP_of ok122 dk122
theorem rv123 : vOf 123 = true → rowP 123 (cd 123) := fun _ => rowP_of ok123 dk123
theorem rv124 : vOf 124 = true → rowP 124 (cd 124) := fun _ => rowP_of ok124 dk124
theorem rv125 : vOf 125 = true → rowP 125 (cd 125) := fun _ => rowP_of ok125 dk125
theorem rv126 : vOf 126 = true → rowP 126 (cd 126) := fun _ => rowP_of ok126 dk126
theorem rv132 : vOf 132 = true → rowP 132 (cd 132) := fun _ => rowP_of ok132 dk132
theorem rv133 : vOf 133 = true → rowP 133 (cd 133) := fun _ => rowP_of ok133 dk133
theorem rv135 : vOf 135 = true → rowP 135 (cd 135) := fun _ => rowP_of ok135 dk135
theorem rv136 : vOf 136 = true → rowP 136 (cd 136) := fun _ => rowP_of ok136 dk136
theorem rv137 : vOf 137 = true → rowP 137 (cd 137) := fun _ => rowP_of ok137 dk137
theorem rv138 : vOf 138 = true → rowP 138 (cd 138) := fun _ => rowP_of ok138 dk138
theorem rv140 : vOf 140 = true → rowP 140 (cd 140) := fun _ => rowP_of ok140 dk140
theorem rv142 : vOf 142 = true → rowP 142 (cd 142) := fun _ => rowP_of ok142 dk142
theorem rv143 : vOf 143 = true → rowP 143 (cd 143) := fun _ => rowP_of ok143 dk143
theorem rv144 : vOf 144 = true → rowP 144 (cd 144) := fun _ => rowP_of ok144 dk144
theorem rv145 : vOf 145 = true → rowP 145 (cd 145) := fun _ => rowP_of ok145 dk145
theorem rv146 : vOf 146 = true → rowP 146 (cd 146) := fun _ => rowP_of ok146 dk146
theorem rv147 : vOf 147 = true → rowP 147 (cd 147) := fun _ => rowP_of ok147 dk147
theorem rv148 : vOf 148 = true → rowP 148 (cd 148) := fun _ => rowP_of ok148 dk148
theorem rv149 : vOf 149 = true → rowP 149 (cd 149) := fun _ => rowP_of ok149 dk149
theorem rv150 : vOf 150 = true → rowP 150 (cd 150) := fun _ => rowP_of ok150 dk150
theorem rv155 : vOf 155 = true → rowP 155 (cd 155) := fun _ => rowP_of ok155 dk155
theorem rv156 : vOf 156 = true → rowP 156 (cd 156) := fun _ => rowP_of ok156 dk156
theorem rv161 : vOf 161 = true → rowP 161 (cd 161) := fun _ => rowP_of ok161 dk161
theorem rv162 : vOf 162 = true → rowP 162 (cd 162) := fun _ => rowP_of ok162 dk162
theorem rv163 : vOf 163 = true → rowP 163 (cd 163) := fun _ => rowP_of ok163 dk163
theorem rv164 : vOf 164 = true → rowP 164 (cd 164) := fun _ => rowP_of ok164 dk164
theorem rv168 : vOf 168 = true → rowP 168 (cd 168) := fun _ => rowP_of ok168 dk168
theorem rv171 : vOf 171 = true → rowP 171 (cd 171) := fun _ => rowP_of ok171 dk171
theorem rv172 : vOf 172 = true → rowP 172 (cd 172) := fun _ => rowP_of ok172 dk172
theorem rv173 : vOf 173 = true → rowP 173 (cd 173) := fun _ => rowP_of ok173 dk173
theorem rv174 : vOf 174 = true → rowP 174 (cd 174) := fun _ => rowP_of ok174 dk174
theorem rv175 : vOf 175 = true → rowP 175 (cd 175) := fun _ => rowP_of ok175 dk175
theorem rv176 : vOf 176 = true → rowP 176 (cd 176) := fun _ => rowP_of ok176 dk176
theorem rv177 : vOf 177 = true → rowP 177 (cd 177) := fun _ => rowP_of ok177 dk177
theorem rv178 : vOf 178 = true → rowP 178 (cd 178) := fun _ => rowP_of ok178 dk178
theorem rv180 : vOf 180 = true → rowP 180 (cd 180) := fun _ => rowP_of ok180 dk180
theorem rv181 : vOf 181 = true → rowP 181 (cd 181) := fun _ => rowP_of ok181 dk181
theorem rv182 : vOf 182 = true → rowP 182 (cd 182) := fun _ => rowP_of ok182 dk182
theorem rv184 : vOf 184 = true → rowP 184 (cd 184) := fun _ => rowP_of ok184 dk184
theorem rv185 : vOf 185 = true → rowP 185 (cd 185) := fun _ => rowP_of ok185 dk185
theorem rv187 : vOf 187 = true → rowP 187 (cd 187) := fun _ => rowP_of ok187 dk187
theorem rv188 : vOf 188 = true → rowP 188 (cd 188) := fun _ => rowP_of ok188 dk188
theorem rv189 : vOf 189 = true → rowP 189 (cd 189) := fun _ => rowP_of ok189 dk189
theorem rv190 : vOf 190 = true → rowP 190 (cd 190) := fun _ => rowP_of ok190 dk190
theorem rv304 : vOf 304 = true → rowP 304 (cd 304) := fun _ => rowP_of ok304 dk304
theorem rv305 : vOf 305 = true → rowP 305 (cd 305) := fun _ => rowP_of ok305 dk305
theorem rv306 : vOf 306 = true → rowP 306 (cd 306) := fun _ => rowP_of ok306 dk306
theorem rowP_no {t : Nat} (h : vOf t = false) : vOf t = true → rowP t (cd t) := fun q => by rw [h] at q; cases q
set_option maxRecDepth 100000 in
theorem rows_ok0 : ∀ t, t < 307 → vOf t = true → rowP t (cd t) := fun t h => by
  have e : allP (fun t => vOf t = true → rowP t (cd t)) (List.range 307) := ⟨rv0, rv1, rv2, rv3, rv4, rv5, rv6, rv7, rv8, rv9, rv10, rv11, rv12, rv13, rv14, rowP_no rfl, rowP_no rfl, rv17, rv18, rv19, rv20, rv21, rv22, rv23, rv24, rv25, rv26, rv27, rv28, rv29, rv30, rv31, rv32, rv33, rv34, rv35, rv36, rv37, rv38, rv39, rv40, rv41, rv42, rv43, rv44, rv45, rv46, rv47, rowP_no rfl, rowP_no rfl, rv50, rv51, rv52, rv53, rv54, rv55, rv56, rv57, rv58, rv59, rowP_no rfl, rowP_no rfl, rowP_no rfl, rv63, rowP_no rfl, rv65, rv66, rv67, rv68, rv69, rv70, rv71, rowP_no rfl, rowP_no rfl, rv74, rv75, rv76, rv77, rv78, rv79, rv80, rv81, rv82, rv83, rv84, rv85, rv86, rv87, rv88, rv89, rv90, rv91, rv92, rv93, rv94, rv95, rv96, rv97, rv98, rv99, rv100, rv101, rv102, rowP_no rfl, rv104, rv105, rv106, rv107, rv108, rv109, rv110, rv111, rv112, rv113, rv114, rv115, rv116, rowP_no rfl, rowP_no rfl, rowP_no rfl, rowP_no rfl, rowP_no rfl, rv122, rv123, rv124, rv125, rv126, rowP_no rfl, rowP_no rfl, rowP_no rfl, rowP_no rfl, rowP_no rfl, rv132, rv133, rowP_no rfl, rv135, rv136, rv137, rv138, rowP_no rfl, rv140, rowP_no rfl, rv142, rv143, rv144, rv145, rv146, rv147, rv148, rv149, rv150, rowP_no rfl, rowP_no rfl, rowP_no rfl, rowP_no rfl, rv155, rv156, rowP_no rfl, rowP_no rfl, rowP_no rfl, rowP_no rfl, rv161, rv162, rv163, rv164, rowP_no rfl, rowP_no rfl, rowP_no rfl, rv168, rowP_no rfl, rowP_no rfl, rv171, rv172, rv173, rv174, rv175, rv176, rv177, rv178, rowP_no rfl, rv180, rv181, rv182, rowP_no rfl, rv184, rv185, rowP_no rfl, rv187, rv188, rv189, rv190, rowP_no rfl, rowP_no rfl, rowP_no rfl, rowP_no rfl, rowP_no rfl, rowP_no rfl, rowP_no rfl, rowP_no rfl, rowP_no rfl, rowP_no rfl, rowP_no rfl, rowP_no rfl, rowP_no rfl, rowP_no rfl, rowP_no rfl, rowP_no rfl, rowP_no rfl, rowP_no rfl, rowP_no rfl, rowP_no rfl, rowP_no rfl, rowP_no rfl, rowP_no rfl, rowP_no rfl, rowP_no rfl, rowP_no rfl, rowP_no rfl, rowP_no rfl, rowP_no rfl, rowP_no rfl, rowP_no rfl, rowP_no rfl, rowP_no rfl, rowP_no rfl, rowP_no rfl, rowP_no rfl, rowP_no rfl, rowP_no rfl, rowP_no rfl, rowP_no rfl, rowP_no rfl, rowP_no rfl, rowP_no rfl, rowP_no rfl, rowP_no rfl, rowP_no rfl, rowP_no rfl, rowP_no rfl, rowP_no rfl, rowP_no rfl, rowP_no rfl, rowP_no rfl, rowP_no rfl, rowP_no rfl, rowP_no rfl, rowP_no rfl, rowP_no rfl, rowP_no rfl, rowP_no rfl, rowP_no rfl, rowP_no rfl, rowP_no rfl, rowP_no rfl, rowP_no rfl, rowP_no rfl, rowP_no rfl, rowP_no rfl, rowP_no rfl, rowP_no rfl, rowP_no rfl, rowP_no rfl, rowP_no rfl, rowP_no rfl, rowP_no rfl, rowP_no rfl, rowP_no rfl, rowP_no rfl, rowP_no rfl, rowP_no rfl, rowP_no rfl, rowP_no rfl, rowP_no rfl, rowP_no rfl, rowP_no rfl, rowP_no rfl, rowP_no rfl, rowP_no rfl, rowP_no rfl, rowP_no rfl, rowP_no rfl, rowP_no rfl, rowP_no rfl, rowP_no rfl, rowP_no rfl, rowP_no rfl, rowP_no rfl, rowP_no rfl, rowP_no rfl, rowP_no rfl, rowP_no rfl, rowP_no rfl, rowP_no rfl, rowP_no rfl, rowP_no rfl, rowP_no rfl, rowP_no rfl, rowP_no rfl, rowP_no rfl, rowP_no rfl, rowP_no rfl, rowP_no rfl, rowP_no rfl, rowP_no rfl, rv304, rv305, rv306, trivial⟩
  exact allP_at e t t (by rw [List.getElem?_range h])
theorem rows_ok : ∀ t, (t < 307 ∧ vOf t = true) ∨ t = 307 → rowP t (cd t) := fun t h => by
  rcases h with h | rfl
  · exact rows_ok0 t h.1 h.2
  · exact rowP_law
