set_option maxRecDepth 20000 in
theorem w_law_c25 {X : ya_X} {nm : String} {Γ : ya_Γ} {G : ya_G} {d : ya_D} {k n : Nat} {γ : Type} {v3 : Int32} {kj : ya_D → Option γ} {rr : γ} (hG : ya_Bk ya_sh ya_ln G 0) (hdy : ya_Dy G) (hkc : k ≤ 600000) (hnc : n ≤ 7302250) (h : f_law_c25 X.2.2.2.2.2.1 G v3 d kj = some rr) (hkj : ∀ d', kj d' = some rr → ya_E X (Y_law nm) Γ 2022 [(0, .ref X.2.2.2.2.2.1.1), (1, .ref (X.2.1 + 0)), (2, .ref (X.2.1 + 83)), (3, .int v3)] [] G d' k n) : ya_E X (Y_law nm) Γ 1011 [(0, .ref X.2.2.2.2.2.1.1), (1, .ref (X.2.1 + 0)), (2, .ref (X.2.1 + 83)), (3, .int v3)] [] G d k n := by
  unfold f_law_c25 at h
  refine ya_aload_n 1 rfl dL_law_1011 ?_
  refine ya_aload_n 0 rfl dL_law_1012 ?_
  refine ya_iload_n 3 rfl dL_law_1013 ?_
  refine ya_iconst 1 (by decide) dL_law_1014 ?_
  refine ya_iadd dL_law_1015 ?_
  refine ya_sald dL_law_1016 h (fun x1016 h => ?_)
  refine ya_aload_n 0 rfl dL_law_1017 ?_
  refine ya_iload_n 3 rfl dL_law_1018 ?_
  refine ya_iconst 2 (by decide) dL_law_1019 ?_
  refine ya_iadd dL_law_1020 ?_
  refine ya_sald dL_law_1021 h (fun x1021 h => ?_)
  refine ya_aload_n 0 rfl dL_law_1022 ?_
  refine ya_iload_n 3 rfl dL_law_1023 ?_
  refine ya_iconst 3 (by decide) dL_law_1024 ?_
  refine ya_iadd dL_law_1025 ?_
  refine ya_sald dL_law_1026 h (fun x1026 h => ?_)
  obtain ⟨x1027, d1027, e1027, h⟩ := ya_ob2 h
  refine ya_callVi (S := []) (c_X11_least hG e1027) m_X11_least ⟨rfl, rfl⟩ ml_L_118 rfl ⟨Nat.le_of_ble_eq_true rfl, Nat.le_of_ble_eq_true rfl⟩ (Nat.le_of_ble_eq_true rfl) (hG.lt0 0 (by decide)) (hG.o0 0 rfl) (by decide) rfl rfl ⟨hkc, hnc⟩ dL_law_1027 rfl ?_
  refine ya_aload_n 2 rfl dL_law_1030 ?_
  refine ya_aload_n 0 rfl dL_law_1031 ?_
  refine ya_iload_n 3 rfl dL_law_1032 ?_
  refine ya_iconst 1 (by decide) dL_law_1033 ?_
  refine ya_iadd dL_law_1034 ?_
  refine ya_sald dL_law_1035 h (fun x1035 h => ?_)
  refine ya_aload_n 0 rfl dL_law_1036 ?_
  refine ya_iload_n 3 rfl dL_law_1037 ?_
  refine ya_iconst 2 (by decide) dL_law_1038 ?_
  refine ya_iadd dL_law_1039 ?_
  refine ya_sald dL_law_1040 h (fun x1040 h => ?_)
  refine ya_aload_n 0 rfl dL_law_1041 ?_
  refine ya_iload_n 3 rfl dL_law_1042 ?_
  refine ya_iconst 3 (by decide) dL_law_1043 ?_
  refine ya_iadd dL_law_1044 ?_
  refine ya_sald dL_law_1045 h (fun x1045 h => ?_)
  obtain ⟨x1046, d1046, e1046, h⟩ := ya_ob2 h
  refine ya_callVi (S := [.int x1027]) (c_X12_least hG e1046) m_X12_least ⟨rfl, rfl⟩ ml_L_121 rfl ⟨Nat.le_of_ble_eq_true rfl, Nat.le_of_ble_eq_true rfl⟩ (Nat.le_of_ble_eq_true rfl) (hG.lt0 83 (by decide)) (hG.o0 83 rfl) (by decide) rfl rfl ⟨hkc, hnc⟩ dL_law_1046 rfl ?_
  refine ya_icmp_eq 2022 (by decide) dL_law_1049 (fun c => ?_) (fun c => ?_)
  · replace h := ya_itet h c
    exact hkj _ h
  · replace h := ya_itef h c
    refine ya_iconst 0 (by decide) dL_law_1052 ?_
    cases h
set_option maxRecDepth 20000 in
theorem w_law_c26 {X : ya_X} {nm : String} {Γ : ya_Γ} {G : ya_G} {d : ya_D} {k n : Nat} {γ : Type} {v3 : Int32} {kj : ya_D → Option γ} {rr : γ} (hG : ya_Bk ya_sh ya_ln G 0) (hdy : ya_Dy G) (hkc : k ≤ 600000) (hnc : n ≤ 7302250) (h : f_law_c26 X.2.2.2.2.2.1 G v3 d kj = some rr) (hkj : ∀ d', kj d' = some rr → ya_E X (Y_law nm) Γ 2022 [(0, .ref X.2.2.2.2.2.1.1), (1, .ref (X.2.1 + 0)), (2, .ref (X.2.1 + 83)), (3, .int v3)] [] G d' k n) : ya_E X (Y_law nm) Γ 1054 [(0, .ref X.2.2.2.2.2.1.1), (1, .ref (X.2.1 + 0)), (2, .ref (X.2.1 + 83)), (3, .int v3)] [] G d k n := by
  unfold f_law_c26 at h
  refine ya_aload_n 1 rfl dL_law_1054 ?_
  refine ya_aload_n 0 rfl dL_law_1055 ?_
  refine ya_iload_n 3 rfl dL_law_1056 ?_
  refine ya_iconst 1 (by decide) dL_law_1057 ?_
  refine ya_iadd dL_law_1058 ?_
  refine ya_sald dL_law_1059 h (fun x1059 h => ?_)
  obtain ⟨x1060, d1060, e1060, h⟩ := ya_ob2 h
  refine ya_callVi (S := []) (c_X11_most hG e1060) m_X11_most ⟨rfl, rfl⟩ ml_L_122 rfl ⟨Nat.le_of_ble_eq_true rfl, Nat.le_of_ble_eq_true rfl⟩ (Nat.le_of_ble_eq_true rfl) (hG.lt0 0 (by decide)) (hG.o0 0 rfl) (by decide) rfl rfl ⟨hkc, hnc⟩ dL_law_1060 rfl ?_
  refine ya_aload_n 2 rfl dL_law_1063 ?_
  refine ya_aload_n 0 rfl dL_law_1064 ?_
  refine ya_iload_n 3 rfl dL_law_1065 ?_
  refine ya_iconst 1 (by decide) dL_law_1066 ?_
  refine ya_iadd dL_law_1067 ?_
  refine ya_sald dL_law_1068 h (fun x1068 h => ?_)
  obtain ⟨x1069, d1069, e1069, h⟩ := ya_ob2 h
  refine ya_callVi (S := [.int x1060]) (c_X12_most hG e1069) m_X12_most ⟨rfl, rfl⟩ ml_L_125 rfl ⟨Nat.le_of_ble_eq_true rfl, Nat.le_of_ble_eq_true rfl⟩ (Nat.le_of_ble_eq_true rfl) (hG.lt0 83 (by decide)) (hG.o0 83 rfl) (by decide) rfl rfl ⟨hkc, hnc⟩ dL_law_1069 rfl ?_
  refine ya_icmp_eq 2022 (by decide) dL_law_1072 (fun c => ?_) (fun c => ?_)
  · replace h := ya_itet h c
    exact hkj _ h
  · replace h := ya_itef h c
    refine ya_iconst 0 (by decide) dL_law_1075 ?_
    cases h
set_option maxRecDepth 20000 in
theorem w_law_c27 {X : ya_X} {nm : String} {Γ : ya_Γ} {G : ya_G} {d : ya_D} {k n : Nat} {γ : Type} {v3 : Int32} {kj : ya_D → Option γ} {rr : γ} (hG : ya_Bk ya_sh ya_ln G 0) (hdy : ya_Dy G) (hkc : k ≤ 600000) (hnc : n ≤ 7302250) (h : f_law_c27 X.2.2.2.2.2.1 G v3 d kj = some rr) (hkj : ∀ d', kj d' = some rr → ya_E X (Y_law nm) Γ 2022 [(0, .ref X.2.2.2.2.2.1.1), (1, .ref (X.2.1 + 0)), (2, .ref (X.2.1 + 83)), (3, .int v3)] [] G d' k n) : ya_E X (Y_law nm) Γ 1077 [(0, .ref X.2.2.2.2.2.1.1), (1, .ref (X.2.1 + 0)), (2, .ref (X.2.1 + 83)), (3, .int v3)] [] G d k n := by
  unfold f_law_c27 at h
  refine ya_aload_n 1 rfl dL_law_1077 ?_
  refine ya_aload_n 0 rfl dL_law_1078 ?_
  refine ya_iload_n 3 rfl dL_law_1079 ?_
  refine ya_iconst 1 (by decide) dL_law_1080 ?_
  refine ya_iadd dL_law_1081 ?_
  refine ya_sald dL_law_1082 h (fun x1082 h => ?_)
  refine ya_aload_n 0 rfl dL_law_1083 ?_
  refine ya_iload_n 3 rfl dL_law_1084 ?_
  refine ya_iconst 2 (by decide) dL_law_1085 ?_
  refine ya_iadd dL_law_1086 ?_
  refine ya_sald dL_law_1087 h (fun x1087 h => ?_)
  refine ya_aload_n 0 rfl dL_law_1088 ?_
  refine ya_iload_n 3 rfl dL_law_1089 ?_
  refine ya_iconst 3 (by decide) dL_law_1090 ?_
  refine ya_iadd dL_law_1091 ?_
  refine ya_sald dL_law_1092 h (fun x1092 h => ?_)
  obtain ⟨x1093, e1093, h⟩ := ya_ob h
  refine ya_callVi (S := []) (c_X11_leap hG e1093) m_X11_leap ⟨rfl, rfl⟩ ml_L_126 rfl ⟨Nat.le_of_ble_eq_true rfl, Nat.le_of_ble_eq_true rfl⟩ (Nat.le_of_ble_eq_true rfl) (hG.lt0 0 (by decide)) (hG.o0 0 rfl) (by decide) rfl rfl ⟨hkc, hnc⟩ dL_law_1093 rfl ?_
  refine ya_aload_n 2 rfl dL_law_1096 ?_
  refine ya_aload_n 0 rfl dL_law_1097 ?_
  refine ya_iload_n 3 rfl dL_law_1098 ?_
  refine ya_iconst 1 (by decide) dL_law_1099 ?_
  refine ya_iadd dL_law_1100 ?_
  refine ya_sald dL_law_1101 h (fun x1101 h => ?_)
  refine ya_aload_n 0 rfl dL_law_1102 ?_
  refine ya_iload_n 3 rfl dL_law_1103 ?_
  refine ya_iconst 2 (by decide) dL_law_1104 ?_
  refine ya_iadd dL_law_1105 ?_
  refine ya_sald dL_law_1106 h (fun x1106 h => ?_)
  refine ya_aload_n 0 rfl dL_law_1107 ?_
  refine ya_iload_n 3 rfl dL_law_1108 ?_
  refine ya_iconst 3 (by decide) dL_law_1109 ?_
  refine ya_iadd dL_law_1110 ?_
  refine ya_sald dL_law_1111 h (fun x1111 h => ?_)
  obtain ⟨x1112, e1112, h⟩ := ya_ob h
  refine ya_callVi (S := [.int x1093]) (c_X12_leap hG e1112) m_X12_leap ⟨rfl, rfl⟩ ml_L_129 rfl ⟨Nat.le_of_ble_eq_true rfl, Nat.le_of_ble_eq_true rfl⟩ (Nat.le_of_ble_eq_true rfl) (hG.lt0 83 (by decide)) (hG.o0 83 rfl) (by decide) rfl rfl ⟨hkc, hnc⟩ dL_law_1112 rfl ?_
  refine ya_icmp_eq 2022 (by decide) dL_law_1115 (fun c => ?_) (fun c => ?_)
  · replace h := ya_itet h c
    exact hkj _ h
  · replace h := ya_itef h c
    refine ya_iconst 0 (by decide) dL_law_1118 ?_
    cases h
set_option maxRecDepth 20000 in
theorem w_law_c28 {X : ya_X} {nm : String} {Γ : ya_Γ} {G : ya_G} {d : ya_D} {k n : Nat} {γ : Type} {v3 : Int32} {kj : ya_D → Option γ} {rr : γ} (hG : ya_Bk ya_sh ya_ln G 0) (hdy : ya_Dy G) (hkc : k ≤ 600000) (hnc : n ≤ 7302250) (h : f_law_c28 X.2.2.2.2.2.1 G v3 d kj = some rr) (hkj : ∀ d', kj d' = some rr → ya_E X (Y_law nm) Γ 2022 [(0, .ref X.2.2.2.2.2.1.1), (1, .ref (X.2.1 + 0)), (2, .ref (X.2.1 + 83)), (3, .int v3)] [] G d' k n) : ya_E X (Y_law nm) Γ 1120 [(0, .ref X.2.2.2.2.2.1.1), (1, .ref (X.2.1 + 0)), (2, .ref (X.2.1 + 83)), (3, .int v3)] [] G d k n := by
  unfold f_law_c28 at h
  refine ya_aload_n 1 rfl dL_law_1120 ?_
  refine ya_aload_n 0 rfl dL_law_1121 ?_
  refine ya_iload_n 3 rfl dL_law_1122 ?_
  refine ya_iconst 1 (by decide) dL_law_1123 ?_
  refine ya_iadd dL_law_1124 ?_
  refine ya_sald dL_law_1125 h (fun x1125 h => ?_)
  refine ya_aload_n 0 rfl dL_law_1126 ?_
  refine ya_iload_n 3 rfl dL_law_1127 ?_
  refine ya_iconst 2 (by decide) dL_law_1128 ?_
  refine ya_iadd dL_law_1129 ?_
  refine ya_sald dL_law_1130 h (fun x1130 h => ?_)
  refine ya_aload_n 0 rfl dL_law_1131 ?_
  refine ya_iload_n 3 rfl dL_law_1132 ?_
  refine ya_iconst 3 (by decide) dL_law_1133 ?_
  refine ya_iadd dL_law_1134 ?_
  refine ya_sald dL_law_1135 h (fun x1135 h => ?_)
  obtain ⟨x1136, e1136, h⟩ := ya_ob h
  refine ya_callVi (S := []) (c_X11_come hG e1136) m_X11_come ⟨rfl, rfl⟩ ml_L_130 rfl ⟨Nat.le_of_ble_eq_true rfl, Nat.le_of_ble_eq_true rfl⟩ (Nat.le_of_ble_eq_true rfl) (hG.lt0 0 (by decide)) (hG.o0 0 rfl) (by decide) rfl rfl ⟨hkc, hnc⟩ dL_law_1136 rfl ?_
  refine ya_aload_n 2 rfl dL_law_1139 ?_
  refine ya_aload_n 0 rfl dL_law_1140 ?_
  refine ya_iload_n 3 rfl dL_law_1141 ?_
  refine ya_iconst 1 (by decide) dL_law_1142 ?_
  refine ya_iadd dL_law_1143 ?_
  refine ya_sald dL_law_1144 h (fun x1144 h => ?_)
  refine ya_aload_n 0 rfl dL_law_1145 ?_
  refine ya_iload_n 3 rfl dL_law_1146 ?_
  refine ya_iconst 2 (by decide) dL_law_1147 ?_
  refine ya_iadd dL_law_1148 ?_
  refine ya_sald dL_law_1149 h (fun x1149 h => ?_)
  refine ya_aload_n 0 rfl dL_law_1150 ?_
  refine ya_iload_n 3 rfl dL_law_1151 ?_
  refine ya_iconst 3 (by decide) dL_law_1152 ?_
  refine ya_iadd dL_law_1153 ?_
  refine ya_sald dL_law_1154 h (fun x1154 h => ?_)
  obtain ⟨x1155, e1155, h⟩ := ya_ob h
  refine ya_callVi (S := [.int x1136]) (c_X12_come hG e1155) m_X12_come ⟨rfl, rfl⟩ ml_L_133 rfl ⟨Nat.le_of_ble_eq_true rfl, Nat.le_of_ble_eq_true rfl⟩ (Nat.le_of_ble_eq_true rfl) (hG.lt0 83 (by decide)) (hG.o0 83 rfl) (by decide) rfl rfl ⟨hkc, hnc⟩ dL_law_1155 rfl ?_
  refine ya_icmp_eq 2022 (by decide) dL_law_1158 (fun c => ?_) (fun c => ?_)
  · replace h := ya_itet h c
    exact hkj _ h
  · replace h := ya_itef h c
    refine ya_iconst 0 (by decide) dL_law_1161 ?_
    cases h
set_option maxRecDepth 20000 in
theorem w_law_c29 {X : ya_X} {nm : String} {Γ : ya_Γ} {G : ya_G} {d : ya_D} {k n : Nat} {γ : Type} {v3 : Int32} {kj : ya_D → Option γ} {rr : γ} (hG : ya_Bk ya_sh ya_ln G 0) (hdy : ya_Dy G) (hkc : k ≤ 600000) (hnc : n ≤ 7302250) (h : f_law_c29 X.2.2.2.2.2.1 G v3 d kj = some rr) (hkj : ∀ d', kj d' = some rr → ya_E X (Y_law nm) Γ 2022 [(0, .ref X.2.2.2.2.2.1.1), (1, .ref (X.2.1 + 0)), (2, .ref (X.2.1 + 83)), (3, .int v3)] [] G d' k n) : ya_E X (Y_law nm) Γ 1163 [(0, .ref X.2.2.2.2.2.1.1), (1, .ref (X.2.1 + 0)), (2, .ref (X.2.1 + 83)), (3, .int v3)] [] G d k n := by
  unfold f_law_c29 at h
  refine ya_aload_n 1 rfl dL_law_1163 ?_
  refine ya_aload_n 0 rfl dL_law_1164 ?_
  refine ya_iload_n 3 rfl dL_law_1165 ?_
  refine ya_iconst 1 (by decide) dL_law_1166 ?_
  refine ya_iadd dL_law_1167 ?_
  refine ya_sald dL_law_1168 h (fun x1168 h => ?_)
  refine ya_aload_n 0 rfl dL_law_1169 ?_
  refine ya_iload_n 3 rfl dL_law_1170 ?_
  refine ya_iconst 2 (by decide) dL_law_1171 ?_
  refine ya_iadd dL_law_1172 ?_
  refine ya_sald dL_law_1173 h (fun x1173 h => ?_)
  refine ya_aload_n 0 rfl dL_law_1174 ?_
  refine ya_iload_n 3 rfl dL_law_1175 ?_
  refine ya_iconst 3 (by decide) dL_law_1176 ?_
  refine ya_iadd dL_law_1177 ?_
  refine ya_sald dL_law_1178 h (fun x1178 h => ?_)
  obtain ⟨x1179, e1179, h⟩ := ya_ob h
  refine ya_callVi (S := []) (c_X11_agree hG hdy e1179) m_X11_agree ⟨rfl, rfl⟩ ml_L_134 rfl ⟨Nat.le_of_ble_eq_true rfl, Nat.le_of_ble_eq_true rfl⟩ (Nat.le_of_ble_eq_true rfl) (hG.lt0 0 (by decide)) (hG.o0 0 rfl) (by decide) rfl rfl ⟨hkc, hnc⟩ dL_law_1179 rfl ?_
  refine ya_aload_n 2 rfl dL_law_1182 ?_
  refine ya_aload_n 0 rfl dL_law_1183 ?_
  refine ya_iload_n 3 rfl dL_law_1184 ?_
  refine ya_iconst 1 (by decide) dL_law_1185 ?_
  refine ya_iadd dL_law_1186 ?_
  refine ya_sald dL_law_1187 h (fun x1187 h => ?_)
  refine ya_aload_n 0 rfl dL_law_1188 ?_
  refine ya_iload_n 3 rfl dL_law_1189 ?_
  refine ya_iconst 2 (by decide) dL_law_1190 ?_
  refine ya_iadd dL_law_1191 ?_
  refine ya_sald dL_law_1192 h (fun x1192 h => ?_)
  refine ya_aload_n 0 rfl dL_law_1193 ?_
  refine ya_iload_n 3 rfl dL_law_1194 ?_
  refine ya_iconst 3 (by decide) dL_law_1195 ?_
  refine ya_iadd dL_law_1196 ?_
  refine ya_sald dL_law_1197 h (fun x1197 h => ?_)
  obtain ⟨x1198, e1198, h⟩ := ya_ob h
  refine ya_callVi (S := [.int x1179]) (c_X12_agree hG e1198) m_X12_agree ⟨rfl, rfl⟩ ml_L_137 rfl ⟨Nat.le_of_ble_eq_true rfl, Nat.le_of_ble_eq_true rfl⟩ (Nat.le_of_ble_eq_true rfl) (hG.lt0 83 (by decide)) (hG.o0 83 rfl) (by decide) rfl rfl ⟨hkc, hnc⟩ dL_law_1198 rfl ?_
  refine ya_icmp_eq 2022 (by decide) dL_law_1201 (fun c => ?_) (fun c => ?_)
  · replace h := ya_itet h c
    exact hkj _ h
  · replace h := ya_itef h c
    refine ya_iconst 0 (by decide) dL_law_1204 ?_
    cases h
set_option maxRecDepth 20000 in
theorem w_law_c30 {X : ya_X} {nm : String} {Γ : ya_Γ} {G : ya_G} {d : ya_D} {k n : Nat} {γ : Type} {v3 : Int32} {kj : ya_D → Option γ} {rr : γ} (hG : ya_Bk ya_sh ya_ln G 0) (hdy : ya_Dy G) (hkc : k ≤ 600000) (hnc : n ≤ 7302250) (h : f_law_c30 X.2.2.2.2.2.1 G v3 d kj = some rr) (hkj : ∀ d', kj d' = some rr → ya_E X (Y_law nm) Γ 2022 [(0, .ref X.2.2.2.2.2.1.1), (1, .ref (X.2.1 + 0)), (2, .ref (X.2.1 + 83)), (3, .int v3)] [] G d' k n) : ya_E X (Y_law nm) Γ 1206 [(0, .ref X.2.2.2.2.2.1.1), (1, .ref (X.2.1 + 0)), (2, .ref (X.2.1 + 83)), (3, .int v3)] [] G d k n := by
  unfold f_law_c30 at h
  refine ya_aload_n 1 rfl dL_law_1206 ?_
  refine ya_aload_n 0 rfl dL_law_1207 ?_
  refine ya_iload_n 3 rfl dL_law_1208 ?_
  refine ya_iconst 1 (by decide) dL_law_1209 ?_
  refine ya_iadd dL_law_1210 ?_
  refine ya_sald dL_law_1211 h (fun x1211 h => ?_)
  refine ya_aload_n 0 rfl dL_law_1212 ?_
  refine ya_iload_n 3 rfl dL_law_1213 ?_
  refine ya_iconst 2 (by decide) dL_law_1214 ?_
  refine ya_iadd dL_law_1215 ?_
  refine ya_sald dL_law_1216 h (fun x1216 h => ?_)
  refine ya_aload_n 0 rfl dL_law_1217 ?_
  refine ya_iload_n 3 rfl dL_law_1218 ?_
  refine ya_iconst 3 (by decide) dL_law_1219 ?_
  refine ya_iadd dL_law_1220 ?_
  refine ya_sald dL_law_1221 h (fun x1221 h => ?_)
  refine ya_aload_n 0 rfl dL_law_1222 ?_
  refine ya_iload_n 3 rfl dL_law_1223 ?_
  refine ya_iconst 4 (by decide) dL_law_1224 ?_
  refine ya_iadd dL_law_1225 ?_
  refine ya_sald dL_law_1226 h (fun x1226 h => ?_)
  obtain ⟨x1227, e1227, h⟩ := ya_ob h
  refine ya_callVi (S := []) (c_X11_told hG hdy e1227) m_X11_told ⟨rfl, rfl⟩ ml_L_138 rfl ⟨Nat.le_of_ble_eq_true rfl, Nat.le_of_ble_eq_true rfl⟩ (Nat.le_of_ble_eq_true rfl) (hG.lt0 0 (by decide)) (hG.o0 0 rfl) (by decide) rfl rfl ⟨hkc, hnc⟩ dL_law_1227 rfl ?_
  refine ya_aload_n 2 rfl dL_law_1230 ?_
  refine ya_aload_n 0 rfl dL_law_1231 ?_
  refine ya_iload_n 3 rfl dL_law_1232 ?_
  refine ya_iconst 1 (by decide) dL_law_1233 ?_
  refine ya_iadd dL_law_1234 ?_
  refine ya_sald dL_law_1235 h (fun x1235 h => ?_)
  refine ya_aload_n 0 rfl dL_law_1236 ?_
  refine ya_iload_n 3 rfl dL_law_1237 ?_
  refine ya_iconst 2 (by decide) dL_law_1238 ?_
  refine ya_iadd dL_law_1239 ?_
  refine ya_sald dL_law_1240 h (fun x1240 h => ?_)
  refine ya_aload_n 0 rfl dL_law_1241 ?_
  refine ya_iload_n 3 rfl dL_law_1242 ?_
  refine ya_iconst 3 (by decide) dL_law_1243 ?_
  refine ya_iadd dL_law_1244 ?_
  refine ya_sald dL_law_1245 h (fun x1245 h => ?_)
  refine ya_aload_n 0 rfl dL_law_1246 ?_
  refine ya_iload_n 3 rfl dL_law_1247 ?_
  refine ya_iconst 4 (by decide) dL_law_1248 ?_
  refine ya_iadd dL_law_1249 ?_
  refine ya_sald dL_law_1250 h (fun x1250 h => ?_)
  obtain ⟨x1251, e1251, h⟩ := ya_ob h
  refine ya_callVi (S := [.int x1227]) (c_X12_told_ hG e1251) m_X12_told_ ⟨rfl, rfl⟩ ml_L_142 rfl ⟨Nat.le_of_ble_eq_true rfl, Nat.le_of_ble_eq_true rfl⟩ (Nat.le_of_ble_eq_true rfl) (hG.lt0 83 (by decide)) (hG.o0 83 rfl) (by decide) rfl rfl ⟨hkc, hnc⟩ dL_law_1251 rfl ?_
  refine ya_icmp_eq 2022 (by decide) dL_law_1254 (fun c => ?_) (fun c => ?_)
  · replace h := ya_itet h c
    exact hkj _ h
  · replace h := ya_itef h c
    refine ya_iconst 0 (by decide) dL_law_1257 ?_
    cases h
set_option maxRecDepth 20000 in
theorem w_law_c31 {X : ya_X} {nm : String} {Γ : ya_Γ} {G : ya_G} {d : ya_D} {k n : Nat} {γ : Type} {v3 : Int32} {kj : ya_D → Option γ} {rr : γ} (hG : ya_Bk ya_sh ya_ln G 0) (hdy : ya_Dy G) (hkc : k ≤ 600000) (hnc : n ≤ 7302250) (h : f_law_c31 X.2.2.2.2.2.1 G v3 d kj = some rr) (hkj : ∀ d', kj d' = some rr → ya_E X (Y_law nm) Γ 2022 [(0, .ref X.2.2.2.2.2.1.1), (1, .ref (X.2.1 + 0)), (2, .ref (X.2.1 + 83)), (3, .int v3)] [] G d' k n) : ya_E X (Y_law nm) Γ 1259 [(0, .ref X.2.2.2.2.2.1.1), (1, .ref (X.2.1 + 0)), (2, .ref (X.2.1 + 83)), (3, .int v3)] [] G d k n := by
  unfold f_law_c31 at h
  refine ya_aload_n 1 rfl dL_law_1259 ?_
  refine ya_aload_n 0 rfl dL_law_1260 ?_
  refine ya_iload_n 3 rfl dL_law_1261 ?_
  refine ya_iconst 1 (by decide) dL_law_1262 ?_
  refine ya_iadd dL_law_1263 ?_
  refine ya_sald dL_law_1264 h (fun x1264 h => ?_)
  obtain ⟨x1265, e1265, h⟩ := ya_ob h
  refine ya_callVi (S := []) (c_X11_odd hG hdy e1265) m_X11_odd ⟨rfl, rfl⟩ ml_L_143 rfl ⟨Nat.le_of_ble_eq_true rfl, Nat.le_of_ble_eq_true rfl⟩ (Nat.le_of_ble_eq_true rfl) (hG.lt0 0 (by decide)) (hG.o0 0 rfl) (by decide) rfl rfl ⟨hkc, hnc⟩ dL_law_1265 rfl ?_
  refine ya_aload_n 2 rfl dL_law_1268 ?_
  refine ya_aload_n 0 rfl dL_law_1269 ?_
  refine ya_iload_n 3 rfl dL_law_1270 ?_
  refine ya_iconst 1 (by decide) dL_law_1271 ?_
  refine ya_iadd dL_law_1272 ?_
  refine ya_sald dL_law_1273 h (fun x1273 h => ?_)
  obtain ⟨x1274, e1274, h⟩ := ya_ob h
  refine ya_callVi (S := [.int x1265]) (c_X12_odd hG e1274) m_X12_odd ⟨rfl, rfl⟩ ml_L_146 rfl ⟨Nat.le_of_ble_eq_true rfl, Nat.le_of_ble_eq_true rfl⟩ (Nat.le_of_ble_eq_true rfl) (hG.lt0 83 (by decide)) (hG.o0 83 rfl) (by decide) rfl rfl ⟨hkc, hnc⟩ dL_law_1274 rfl ?_
  refine ya_icmp_eq 2022 (by decide) dL_law_1277 (fun c => ?_) (fun c => ?_)
  · replace h := ya_itet h c
    exact hkj _ h
  · replace h := ya_itef h c
    refine ya_iconst 0 (by decide) dL_law_1280 ?_
    cases h
set_option maxRecDepth 20000 in
theorem w_law_c32 {X : ya_X} {nm : String} {Γ : ya_Γ} {G : ya_G} {d : ya_D} {k n : Nat} {γ : Type} {v3 : Int32} {kj : ya_D → Option γ} {rr : γ} (hG : ya_Bk ya_sh ya_ln G 0) (hdy : ya_Dy G) (hkc : k ≤ 600000) (hnc : n ≤ 7302250) (h : f_law_c32 X.2.2.2.2.2.1 G v3 d kj = some rr) (hkj : ∀ d', kj d' = some rr → ya_E X (Y_law nm) Γ 2022 [(0, .ref X.2.2.2.2.2.1.1), (1, .ref (X.2.1 + 0)), (2, .ref (X.2.1 + 83)), (3, .int v3)] [] G d' k n) : ya_E X (Y_law nm) Γ 1282 [(0, .ref X.2.2.2.2.2.1.1), (1, .ref (X.2.1 + 0)), (2, .ref (X.2.1 + 83)), (3, .int v3)] [] G d k n := by
  unfold f_law_c32 at h
  refine ya_aload_n 1 rfl dL_law_1282 ?_
  refine ya_aload_n 0 rfl dL_law_1283 ?_
  refine ya_iload_n 3 rfl dL_law_1284 ?_
  refine ya_iconst 1 (by decide) dL_law_1285 ?_
  refine ya_iadd dL_law_1286 ?_
  refine ya_sald dL_law_1287 h (fun x1287 h => ?_)
  refine ya_aload_n 0 rfl dL_law_1288 ?_
  refine ya_iload_n 3 rfl dL_law_1289 ?_
  refine ya_iconst 2 (by decide) dL_law_1290 ?_
  refine ya_iadd dL_law_1291 ?_
  refine ya_sald dL_law_1292 h (fun x1292 h => ?_)
  obtain ⟨x1293, e1293, h⟩ := ya_ob h
  refine ya_callVi (S := []) (c_X11_passing hG e1293) m_X11_passing ⟨rfl, rfl⟩ ml_L_147 rfl ⟨Nat.le_of_ble_eq_true rfl, Nat.le_of_ble_eq_true rfl⟩ (Nat.le_of_ble_eq_true rfl) (hG.lt0 0 (by decide)) (hG.o0 0 rfl) (by decide) rfl rfl ⟨hkc, hnc⟩ dL_law_1293 rfl ?_
  refine ya_aload_n 2 rfl dL_law_1296 ?_
  refine ya_aload_n 0 rfl dL_law_1297 ?_
  refine ya_iload_n 3 rfl dL_law_1298 ?_
  refine ya_iconst 1 (by decide) dL_law_1299 ?_
  refine ya_iadd dL_law_1300 ?_
  refine ya_sald dL_law_1301 h (fun x1301 h => ?_)
  refine ya_aload_n 0 rfl dL_law_1302 ?_
  refine ya_iload_n 3 rfl dL_law_1303 ?_
  refine ya_iconst 2 (by decide) dL_law_1304 ?_
  refine ya_iadd dL_law_1305 ?_
  refine ya_sald dL_law_1306 h (fun x1306 h => ?_)
  obtain ⟨x1307, e1307, h⟩ := ya_ob h
  refine ya_callVi (S := [.int x1293]) (c_X12_passing hG e1307) m_X12_passing ⟨rfl, rfl⟩ ml_L_150 rfl ⟨Nat.le_of_ble_eq_true rfl, Nat.le_of_ble_eq_true rfl⟩ (Nat.le_of_ble_eq_true rfl) (hG.lt0 83 (by decide)) (hG.o0 83 rfl) (by decide) rfl rfl ⟨hkc, hnc⟩ dL_law_1307 rfl ?_
  refine ya_icmp_eq 2022 (by decide) dL_law_1310 (fun c => ?_) (fun c => ?_)
  · replace h := ya_itet h c
    exact hkj _ h
  · replace h := ya_itef h c
    refine ya_iconst 0 (by decide) dL_law_1313 ?_
    cases h
set_option maxRecDepth 20000 in
theorem w_law_c33 {X : ya_X} {nm : String} {Γ : ya_Γ} {G : ya_G} {d : ya_D} {k n : Nat} {γ : Type} {v3 : Int32} {kj : ya_D → Option γ} {rr : γ} (hG : ya_Bk ya_sh ya_ln G 0) (hdy : ya_Dy G) (hkc : k ≤ 600000) (hnc : n ≤ 7302250) (h : f_law_c33 X.2.2.2.2.2.1 G v3 d kj = some rr) (hkj : ∀ d', kj d' = some rr → ya_E X (Y_law nm) Γ 2022 [(0, .ref X.2.2.2.2.2.1.1), (1, .ref (X.2.1 + 0)), (2, .ref (X.2.1 + 83)), (3, .int v3)] [] G d' k n) : ya_E X (Y_law nm) Γ 1315 [(0, .ref X.2.2.2.2.2.1.1), (1, .ref (X.2.1 + 0)), (2, .ref (X.2.1 + 83)), (3, .int v3)] [] G d k n := by
  unfold f_law_c33 at h
  refine ya_aload_n 1 rfl dL_law_1315 ?_
  refine ya_aload_n 0 rfl dL_law_1316 ?_
  refine ya_iload_n 3 rfl dL_law_1317 ?_
  refine ya_iconst 1 (by decide) dL_law_1318 ?_
  refine ya_iadd dL_law_1319 ?_
  refine ya_sald dL_law_1320 h (fun x1320 h => ?_)
  refine ya_aload_n 0 rfl dL_law_1321 ?_
  refine ya_iload_n 3 rfl dL_law_1322 ?_
  refine ya_iconst 2 (by decide) dL_law_1323 ?_
  refine ya_iadd dL_law_1324 ?_
  refine ya_sald dL_law_1325 h (fun x1325 h => ?_)
  refine ya_aload_n 0 rfl dL_law_1326 ?_
  refine ya_iload_n 3 rfl dL_law_1327 ?_
  refine ya_iconst 3 (by decide) dL_law_1328 ?_
  refine ya_iadd dL_law_1329 ?_
  refine ya_sald dL_law_1330 h (fun x1330 h => ?_)
  refine ya_aload_n 0 rfl dL_law_1331 ?_
  refine ya_iload_n 3 rfl dL_law_1332 ?_
  refine ya_iconst 4 (by decide) dL_law_1333 ?_
  refine ya_iadd dL_law_1334 ?_
  refine ya_sald dL_law_1335 h (fun x1335 h => ?_)
  refine ya_aload_n 0 rfl dL_law_1336 ?_
  refine ya_iload_n 3 rfl dL_law_1337 ?_
  refine ya_iconst 5 (by decide) dL_law_1338 ?_
  refine ya_iadd dL_law_1339 ?_
  refine ya_sald dL_law_1340 h (fun x1340 h => ?_)
  obtain ⟨x1341, d1341, e1341, h⟩ := ya_ob2 h
  refine ya_callVi (S := []) (c_X11_like hG e1341) m_X11_like ⟨rfl, rfl⟩ ml_L_151 rfl ⟨Nat.le_of_ble_eq_true rfl, Nat.le_of_ble_eq_true rfl⟩ (Nat.le_of_ble_eq_true rfl) (hG.lt0 0 (by decide)) (hG.o0 0 rfl) (by decide) rfl rfl ⟨hkc, hnc⟩ dL_law_1341 rfl ?_
  refine ya_aload_n 2 rfl dL_law_1344 ?_
  refine ya_aload_n 0 rfl dL_law_1345 ?_
  refine ya_iload_n 3 rfl dL_law_1346 ?_
  refine ya_iconst 1 (by decide) dL_law_1347 ?_
  refine ya_iadd dL_law_1348 ?_
  refine ya_sald dL_law_1349 h (fun x1349 h => ?_)
  refine ya_aload_n 0 rfl dL_law_1350 ?_
  refine ya_iload_n 3 rfl dL_law_1351 ?_
  refine ya_iconst 2 (by decide) dL_law_1352 ?_
  refine ya_iadd dL_law_1353 ?_
  refine ya_sald dL_law_1354 h (fun x1354 h => ?_)
  refine ya_aload_n 0 rfl dL_law_1355 ?_
  refine ya_iload_n 3 rfl dL_law_1356 ?_
  refine ya_iconst 3 (by decide) dL_law_1357 ?_
  refine ya_iadd dL_law_1358 ?_
  refine ya_sald dL_law_1359 h (fun x1359 h => ?_)
  refine ya_aload_n 0 rfl dL_law_1360 ?_
  refine ya_iload_n 3 rfl dL_law_1361 ?_
  refine ya_iconst 4 (by decide) dL_law_1362 ?_
  refine ya_iadd dL_law_1363 ?_
  refine ya_sald dL_law_1364 h (fun x1364 h => ?_)
  refine ya_aload_n 0 rfl dL_law_1365 ?_
  refine ya_iload_n 3 rfl dL_law_1366 ?_
  refine ya_iconst 5 (by decide) dL_law_1367 ?_
  refine ya_iadd dL_law_1368 ?_
  refine ya_sald dL_law_1369 h (fun x1369 h => ?_)
  obtain ⟨x1370, d1370, e1370, h⟩ := ya_ob2 h
  refine ya_callVi (S := [.int x1341]) (c_X12_like hG e1370) m_X12_like ⟨rfl, rfl⟩ ml_L_154 rfl ⟨Nat.le_of_ble_eq_true rfl, Nat.le_of_ble_eq_true rfl⟩ (Nat.le_of_ble_eq_true rfl) (hG.lt0 83 (by decide)) (hG.o0 83 rfl) (by decide) rfl rfl ⟨hkc, hnc⟩ dL_law_1370 rfl ?_
  refine ya_icmp_eq 2022 (by decide) dL_law_1373 (fun c => ?_) (fun c => ?_)
  · replace h := ya_itet h c
    exact hkj _ h
  · replace h := ya_itef h c
    refine ya_iconst 0 (by decide) dL_law_1376 ?_
    cases h
set_option maxRecDepth 20000 in
theorem w_law_c34 {X : ya_X} {nm : String} {Γ : ya_Γ} {G : ya_G} {d : ya_D} {k n : Nat} {γ : Type} {v3 : Int32} {kj : ya_D → Option γ} {rr : γ} (hG : ya_Bk ya_sh ya_ln G 0) (hdy : ya_Dy G) (hkc : k ≤ 600000) (hnc : n ≤ 7302250) (h : f_law_c34 X.2.2.2.2.2.1 G v3 d kj = some rr) (hkj : ∀ d', kj d' = some rr → ya_E X (Y_law nm) Γ 2022 [(0, .ref X.2.2.2.2.2.1.1), (1, .ref (X.2.1 + 0)), (2, .ref (X.2.1 + 83)), (3, .int v3)] [] G d' k n) : ya_E X (Y_law nm) Γ 1378 [(0, .ref X.2.2.2.2.2.1.1), (1, .ref (X.2.1 + 0)), (2, .ref (X.2.1 + 83)), (3, .int v3)] [] G d k n := by
  unfold f_law_c34 at h
  refine ya_aload_n 1 rfl dL_law_1378 ?_
  refine ya_aload_n 0 rfl dL_law_1379 ?_
  refine ya_iload_n 3 rfl dL_law_1380 ?_
  refine ya_iconst 1 (by decide) dL_law_1381 ?_
  refine ya_iadd dL_law_1382 ?_
  refine ya_sald dL_law_1383 h (fun x1383 h => ?_)
  refine ya_aload_n 0 rfl dL_law_1384 ?_
  refine ya_iload_n 3 rfl dL_law_1385 ?_
  refine ya_iconst 2 (by decide) dL_law_1386 ?_
  refine ya_iadd dL_law_1387 ?_
  refine ya_sald dL_law_1388 h (fun x1388 h => ?_)
  obtain ⟨x1389, d1389, e1389, h⟩ := ya_ob2 h
  refine ya_callVi (S := []) (c_X11_queue hG e1389) m_X11_queue ⟨rfl, rfl⟩ ml_L_155 rfl ⟨Nat.le_of_ble_eq_true rfl, Nat.le_of_ble_eq_true rfl⟩ (Nat.le_of_ble_eq_true rfl) (hG.lt0 0 (by decide)) (hG.o0 0 rfl) (by decide) rfl rfl ⟨hkc, hnc⟩ dL_law_1389 rfl ?_
  refine ya_aload_n 2 rfl dL_law_1392 ?_
  refine ya_aload_n 0 rfl dL_law_1393 ?_
  refine ya_iload_n 3 rfl dL_law_1394 ?_
  refine ya_iconst 1 (by decide) dL_law_1395 ?_
  refine ya_iadd dL_law_1396 ?_
  refine ya_sald dL_law_1397 h (fun x1397 h => ?_)
  refine ya_aload_n 0 rfl dL_law_1398 ?_
  refine ya_iload_n 3 rfl dL_law_1399 ?_
  refine ya_iconst 2 (by decide) dL_law_1400 ?_
  refine ya_iadd dL_law_1401 ?_
  refine ya_sald dL_law_1402 h (fun x1402 h => ?_)
  obtain ⟨x1403, d1403, e1403, h⟩ := ya_ob2 h
  refine ya_callVi (S := [.int x1389]) (c_X12_queue hG e1403) m_X12_queue ⟨rfl, rfl⟩ ml_L_158 rfl ⟨Nat.le_of_ble_eq_true rfl, Nat.le_of_ble_eq_true rfl⟩ (Nat.le_of_ble_eq_true rfl) (hG.lt0 83 (by decide)) (hG.o0 83 rfl) (by decide) rfl rfl ⟨hkc, hnc⟩ dL_law_1403 rfl ?_
  refine ya_icmp_eq 2022 (by decide) dL_law_1406 (fun c => ?_) (fun c => ?_)
  · replace h := ya_itet h c
    exact hkj _ h
  · replace h := ya_itef h c
    refine ya_iconst 0 (by decide) dL_law_1409 ?_
    cases h
set_option maxRecDepth 20000 in
theorem w_law_c35 {X : ya_X} {nm : String} {Γ : ya_Γ} {G : ya_G} {d : ya_D} {k n : Nat} {γ : Type} {v3 : Int32} {kj : ya_D → Option γ} {rr : γ} (hG : ya_Bk ya_sh ya_ln G 0) (hdy : ya_Dy G) (hkc : k ≤ 600000) (hnc : n ≤ 7302250) (h : f_law_c35 X.2.2.2.2.2.1 G v3 d kj = some rr) (hkj : ∀ d', kj d' = some rr → ya_E X (Y_law nm) Γ 2022 [(0, .ref X.2.2.2.2.2.1.1), (1, .ref (X.2.1 + 0)), (2, .ref (X.2.1 + 83)), (3, .int v3)] [] G d' k n) : ya_E X (Y_law nm) Γ 1411 [(0, .ref X.2.2.2.2.2.1.1), (1, .ref (X.2.1 + 0)), (2, .ref (X.2.1 + 83)), (3, .int v3)] [] G d k n := by
  unfold f_law_c35 at h
  refine ya_aload_n 1 rfl dL_law_1411 ?_
  refine ya_aload_n 0 rfl dL_law_1412 ?_
  refine ya_iload_n 3 rfl dL_law_1413 ?_
  refine ya_iconst 1 (by decide) dL_law_1414 ?_
  refine ya_iadd dL_law_1415 ?_
  refine ya_sald dL_law_1416 h (fun x1416 h => ?_)
  refine ya_aload_n 0 rfl dL_law_1417 ?_
  refine ya_iload_n 3 rfl dL_law_1418 ?_
  refine ya_iconst 2 (by decide) dL_law_1419 ?_
  refine ya_iadd dL_law_1420 ?_
  refine ya_sald dL_law_1421 h (fun x1421 h => ?_)
  obtain ⟨x1422, d1422, e1422, h⟩ := ya_ob2 h
  refine ya_callVi (S := []) (c_X11_spoils hG e1422) m_X11_spoils ⟨rfl, rfl⟩ ml_L_159 rfl ⟨Nat.le_of_ble_eq_true rfl, Nat.le_of_ble_eq_true rfl⟩ (Nat.le_of_ble_eq_true rfl) (hG.lt0 0 (by decide)) (hG.o0 0 rfl) (by decide) rfl rfl ⟨hkc, hnc⟩ dL_law_1422 rfl ?_
  refine ya_aload_n 2 rfl dL_law_1425 ?_
  refine ya_aload_n 0 rfl dL_law_1426 ?_
  refine ya_iload_n 3 rfl dL_law_1427 ?_
  refine ya_iconst 1 (by decide) dL_law_1428 ?_
  refine ya_iadd dL_law_1429 ?_
  refine ya_sald dL_law_1430 h (fun x1430 h => ?_)
  refine ya_aload_n 0 rfl dL_law_1431 ?_
  refine ya_iload_n 3 rfl dL_law_1432 ?_
  refine ya_iconst 2 (by decide) dL_law_1433 ?_
  refine ya_iadd dL_law_1434 ?_
  refine ya_sald dL_law_1435 h (fun x1435 h => ?_)
  obtain ⟨x1436, d1436, e1436, h⟩ := ya_ob2 h
  refine ya_callVi (S := [.int x1422]) (c_X12_spoils hG e1436) m_X12_spoils ⟨rfl, rfl⟩ ml_L_162 rfl ⟨Nat.le_of_ble_eq_true rfl, Nat.le_of_ble_eq_true rfl⟩ (Nat.le_of_ble_eq_true rfl) (hG.lt0 83 (by decide)) (hG.o0 83 rfl) (by decide) rfl rfl ⟨hkc, hnc⟩ dL_law_1436 rfl ?_
  refine ya_icmp_eq 2022 (by decide) dL_law_1439 (fun c => ?_) (fun c => ?_)
  · replace h := ya_itet h c
    exact hkj _ h
  · replace h := ya_itef h c
    refine ya_iconst 0 (by decide) dL_law_1442 ?_
    cases h
set_option maxRecDepth 20000 in
theorem w_law_c36 {X : ya_X} {nm : String} {Γ : ya_Γ} {G : ya_G} {d : ya_D} {k n : Nat} {γ : Type} {v3 : Int32} {kj : ya_D → Option γ} {rr : γ} (hG : ya_Bk ya_sh ya_ln G 0) (hdy : ya_Dy G) (hkc : k ≤ 600000) (hnc : n ≤ 7302250) (h : f_law_c36 X.2.2.2.2.2.1 G v3 d kj = some rr) (hkj : ∀ d', kj d' = some rr → ya_E X (Y_law nm) Γ 2022 [(0, .ref X.2.2.2.2.2.1.1), (1, .ref (X.2.1 + 0)), (2, .ref (X.2.1 + 83)), (3, .int v3)] [] G d' k n) : ya_E X (Y_law nm) Γ 1444 [(0, .ref X.2.2.2.2.2.1.1), (1, .ref (X.2.1 + 0)), (2, .ref (X.2.1 + 83)), (3, .int v3)] [] G d k n := by
  unfold f_law_c36 at h
  refine ya_aload_n 1 rfl dL_law_1444 ?_
  refine ya_aload_n 0 rfl dL_law_1445 ?_
  refine ya_iload_n 3 rfl dL_law_1446 ?_
  refine ya_iconst 1 (by decide) dL_law_1447 ?_
  refine ya_iadd dL_law_1448 ?_
  refine ya_sald dL_law_1449 h (fun x1449 h => ?_)
  refine ya_aload_n 0 rfl dL_law_1450 ?_
  refine ya_iload_n 3 rfl dL_law_1451 ?_
  refine ya_iconst 2 (by decide) dL_law_1452 ?_
  refine ya_iadd dL_law_1453 ?_
  refine ya_sald dL_law_1454 h (fun x1454 h => ?_)
  obtain ⟨x1455, e1455, h⟩ := ya_ob h
  refine ya_callVi (S := []) (c_X11_shape hG e1455) m_X11_shape ⟨rfl, rfl⟩ ml_L_163 rfl ⟨Nat.le_of_ble_eq_true rfl, Nat.le_of_ble_eq_true rfl⟩ (Nat.le_of_ble_eq_true rfl) (hG.lt0 0 (by decide)) (hG.o0 0 rfl) (by decide) rfl rfl ⟨hkc, hnc⟩ dL_law_1455 rfl ?_
  refine ya_aload_n 2 rfl dL_law_1458 ?_
  refine ya_aload_n 0 rfl dL_law_1459 ?_
  refine ya_iload_n 3 rfl dL_law_1460 ?_
  refine ya_iconst 1 (by decide) dL_law_1461 ?_
  refine ya_iadd dL_law_1462 ?_
  refine ya_sald dL_law_1463 h (fun x1463 h => ?_)
  refine ya_aload_n 0 rfl dL_law_1464 ?_
  refine ya_iload_n 3 rfl dL_law_1465 ?_
  refine ya_iconst 2 (by decide) dL_law_1466 ?_
  refine ya_iadd dL_law_1467 ?_
  refine ya_sald dL_law_1468 h (fun x1468 h => ?_)
  obtain ⟨x1469, e1469, h⟩ := ya_ob h
  refine ya_callVi (S := [.int x1455]) (c_X12_shape hG e1469) m_X12_shape ⟨rfl, rfl⟩ ml_L_166 rfl ⟨Nat.le_of_ble_eq_true rfl, Nat.le_of_ble_eq_true rfl⟩ (Nat.le_of_ble_eq_true rfl) (hG.lt0 83 (by decide)) (hG.o0 83 rfl) (by decide) rfl rfl ⟨hkc, hnc⟩ dL_law_1469 rfl ?_
  refine ya_icmp_eq 2022 (by decide) dL_law_1472 (fun c => ?_) (fun c => ?_)
  · replace h := ya_itet h c
    exact hkj _ h
  · replace h := ya_itef h c
    refine ya_iconst 0 (by decide) dL_law_1475 ?_
    cases h
set_option maxRecDepth 20000 in
theorem w_law_c37 {X : ya_X} {nm : String} {Γ : ya_Γ} {G : ya_G} {d : ya_D} {k n : Nat} {γ : Type} {v3 : Int32} {kj : ya_D → Option γ} {rr : γ} (hG : ya_Bk ya_sh ya_ln G 0) (hdy : ya_Dy G) (hkc : k ≤ 600000) (hnc : n ≤ 7302250) (h : f_law_c37 X.2.2.2.2.2.1 G v3 d kj = some rr) (hkj : ∀ d', kj d' = some rr → ya_E X (Y_law nm) Γ 2022 [(0, .ref X.2.2.2.2.2.1.1), (1, .ref (X.2.1 + 0)), (2, .ref (X.2.1 + 83)), (3, .int v3)] [] G d' k n) : ya_E X (Y_law nm) Γ 1477 [(0, .ref X.2.2.2.2.2.1.1), (1, .ref (X.2.1 + 0)), (2, .ref (X.2.1 + 83)), (3, .int v3)] [] G d k n := by
  unfold f_law_c37 at h
  refine ya_aload_n 1 rfl dL_law_1477 ?_
  refine ya_aload_n 0 rfl dL_law_1478 ?_
  refine ya_iload_n 3 rfl dL_law_1479 ?_
  refine ya_iconst 1 (by decide) dL_law_1480 ?_
  refine ya_iadd dL_law_1481 ?_
  refine ya_sald dL_law_1482 h (fun x1482 h => ?_)
  refine ya_aload_n 0 rfl dL_law_1483 ?_
  refine ya_iload_n 3 rfl dL_law_1484 ?_
  refine ya_iconst 2 (by decide) dL_law_1485 ?_
  refine ya_iadd dL_law_1486 ?_
  refine ya_sald dL_law_1487 h (fun x1487 h => ?_)
  obtain ⟨x1488, e1488, h⟩ := ya_ob h
  refine ya_callVi (S := []) (c_X11_dearer hG e1488) m_X11_dearer ⟨rfl, rfl⟩ ml_L_167 rfl ⟨Nat.le_of_ble_eq_true rfl, Nat.le_of_ble_eq_true rfl⟩ (Nat.le_of_ble_eq_true rfl) (hG.lt0 0 (by decide)) (hG.o0 0 rfl) (by decide) rfl rfl ⟨hkc, hnc⟩ dL_law_1488 rfl ?_
  refine ya_aload_n 2 rfl dL_law_1491 ?_
  refine ya_aload_n 0 rfl dL_law_1492 ?_
  refine ya_iload_n 3 rfl dL_law_1493 ?_
  refine ya_iconst 1 (by decide) dL_law_1494 ?_
  refine ya_iadd dL_law_1495 ?_
  refine ya_sald dL_law_1496 h (fun x1496 h => ?_)
  refine ya_aload_n 0 rfl dL_law_1497 ?_
  refine ya_iload_n 3 rfl dL_law_1498 ?_
  refine ya_iconst 2 (by decide) dL_law_1499 ?_
  refine ya_iadd dL_law_1500 ?_
  refine ya_sald dL_law_1501 h (fun x1501 h => ?_)
  obtain ⟨x1502, e1502, h⟩ := ya_ob h
  refine ya_callVi (S := [.int x1488]) (c_X12_dearer hG e1502) m_X12_dearer ⟨rfl, rfl⟩ ml_L_170 rfl ⟨Nat.le_of_ble_eq_true rfl, Nat.le_of_ble_eq_true rfl⟩ (Nat.le_of_ble_eq_true rfl) (hG.lt0 83 (by decide)) (hG.o0 83 rfl) (by decide) rfl rfl ⟨hkc, hnc⟩ dL_law_1502 rfl ?_
  refine ya_icmp_eq 2022 (by decide) dL_law_1505 (fun c => ?_) (fun c => ?_)
  · replace h := ya_itet h c
    exact hkj _ h
  · replace h := ya_itef h c
    refine ya_iconst 0 (by decide) dL_law_1508 ?_
    cases h
set_option maxRecDepth 20000 in
theorem w_law_c38 {X : ya_X} {nm : String} {Γ : ya_Γ} {G : ya_G} {d : ya_D} {k n : Nat} {γ : Type} {v3 : Int32} {kj : ya_D → Option γ} {rr : γ} (hG : ya_Bk ya_sh ya_ln G 0) (hdy : ya_Dy G) (hkc : k ≤ 600000) (hnc : n ≤ 7302250) (h : f_law_c38 X.2.2.2.2.2.1 G v3 d kj = some rr) (hkj : ∀ d', kj d' = some rr → ya_E X (Y_law nm) Γ 2022 [(0, .ref X.2.2.2.2.2.1.1), (1, .ref (X.2.1 + 0)), (2, .ref (X.2.1 + 83)), (3, .int v3)] [] G d' k n) : ya_E X (Y_law nm) Γ 1510 [(0, .ref X.2.2.2.2.2.1.1), (1, .ref (X.2.1 + 0)), (2, .ref (X.2.1 + 83)), (3, .int v3)] [] G d k n := by
  unfold f_law_c38 at h
  refine ya_aload_n 1 rfl dL_law_1510 ?_
  refine ya_aload_n 0 rfl dL_law_1511 ?_
  refine ya_iload_n 3 rfl dL_law_1512 ?_
  refine ya_iconst 1 (by decide) dL_law_1513 ?_
  refine ya_iadd dL_law_1514 ?_
  refine ya_sald dL_law_1515 h (fun x1515 h => ?_)
  refine ya_aload_n 0 rfl dL_law_1516 ?_
  refine ya_iload_n 3 rfl dL_law_1517 ?_
  refine ya_iconst 2 (by decide) dL_law_1518 ?_
  refine ya_iadd dL_law_1519 ?_
  refine ya_sald dL_law_1520 h (fun x1520 h => ?_)
  obtain ⟨x1521, d1521, e1521, h⟩ := ya_ob2 h
  refine ya_callVi (S := []) (c_X11_keeping hG e1521) m_X11_keeping ⟨rfl, rfl⟩ ml_L_171 rfl ⟨Nat.le_of_ble_eq_true rfl, Nat.le_of_ble_eq_true rfl⟩ (Nat.le_of_ble_eq_true rfl) (hG.lt0 0 (by decide)) (hG.o0 0 rfl) (by decide) rfl rfl ⟨hkc, hnc⟩ dL_law_1521 rfl ?_
  refine ya_aload_n 2 rfl dL_law_1524 ?_
  refine ya_aload_n 0 rfl dL_law_1525 ?_
  refine ya_iload_n 3 rfl dL_law_1526 ?_
  refine ya_iconst 1 (by decide) dL_law_1527 ?_
  refine ya_iadd dL_law_1528 ?_
  refine ya_sald dL_law_1529 h (fun x1529 h => ?_)
  refine ya_aload_n 0 rfl dL_law_1530 ?_
  refine ya_iload_n 3 rfl dL_law_1531 ?_
  refine ya_iconst 2 (by decide) dL_law_1532 ?_
  refine ya_iadd dL_law_1533 ?_
  refine ya_sald dL_law_1534 h (fun x1534 h => ?_)
  obtain ⟨x1535, d1535, e1535, h⟩ := ya_ob2 h
  refine ya_callVi (S := [.int x1521]) (c_X12_keeping hG e1535) m_X12_keeping ⟨rfl, rfl⟩ ml_L_174 rfl ⟨Nat.le_of_ble_eq_true rfl, Nat.le_of_ble_eq_true rfl⟩ (Nat.le_of_ble_eq_true rfl) (hG.lt0 83 (by decide)) (hG.o0 83 rfl) (by decide) rfl rfl ⟨hkc, hnc⟩ dL_law_1535 rfl ?_
  refine ya_icmp_eq 2022 (by decide) dL_law_1538 (fun c => ?_) (fun c => ?_)
  · replace h := ya_itet h c
    exact hkj _ h
  · replace h := ya_itef h c
    refine ya_iconst 0 (by decide) dL_law_1541 ?_
    cases h
set_option maxRecDepth 20000 in
theorem w_law_c39 {X : ya_X} {nm : String} {Γ : ya_Γ} {G : ya_G} {d : ya_D} {k n : Nat} {γ : Type} {v3 : Int32} {kj : ya_D → Option γ} {rr : γ} (hG : ya_Bk ya_sh ya_ln G 0) (hdy : ya_Dy G) (hkc : k ≤ 600000) (hnc : n ≤ 7302250) (h : f_law_c39 X.2.2.2.2.2.1 G v3 d kj = some rr) (hkj : ∀ d', kj d' = some rr → ya_E X (Y_law nm) Γ 2022 [(0, .ref X.2.2.2.2.2.1.1), (1, .ref (X.2.1 + 0)), (2, .ref (X.2.1 + 83)), (3, .int v3)] [] G d' k n) : ya_E X (Y_law nm) Γ 1543 [(0, .ref X.2.2.2.2.2.1.1), (1, .ref (X.2.1 + 0)), (2, .ref (X.2.1 + 83)), (3, .int v3)] [] G d k n := by
  unfold f_law_c39 at h
  refine ya_aload_n 1 rfl dL_law_1543 ?_
  refine ya_aload_n 0 rfl dL_law_1544 ?_
  refine ya_iload_n 3 rfl dL_law_1545 ?_
  refine ya_iconst 1 (by decide) dL_law_1546 ?_
  refine ya_iadd dL_law_1547 ?_
  refine ya_sald dL_law_1548 h (fun x1548 h => ?_)
  obtain ⟨x1549, d1549, e1549, h⟩ := ya_ob2 h
  refine ya_callVi (S := []) (c_X11_enough hG e1549) m_X11_enough ⟨rfl, rfl⟩ ml_L_175 rfl ⟨Nat.le_of_ble_eq_true rfl, Nat.le_of_ble_eq_true rfl⟩ (Nat.le_of_ble_eq_true rfl) (hG.lt0 0 (by decide)) (hG.o0 0 rfl) (by decide) rfl rfl ⟨hkc, hnc⟩ dL_law_1549 rfl ?_
  refine ya_aload_n 2 rfl dL_law_1552 ?_
  refine ya_aload_n 0 rfl dL_law_1553 ?_
  refine ya_iload_n 3 rfl dL_law_1554 ?_
  refine ya_iconst 1 (by decide) dL_law_1555 ?_
  refine ya_iadd dL_law_1556 ?_
  refine ya_sald dL_law_1557 h (fun x1557 h => ?_)
  obtain ⟨x1558, d1558, e1558, h⟩ := ya_ob2 h
  refine ya_callVi (S := [.int x1549]) (c_X12_enough hG e1558) m_X12_enough ⟨rfl, rfl⟩ ml_L_178 rfl ⟨Nat.le_of_ble_eq_true rfl, Nat.le_of_ble_eq_true rfl⟩ (Nat.le_of_ble_eq_true rfl) (hG.lt0 83 (by decide)) (hG.o0 83 rfl) (by decide) rfl rfl ⟨hkc, hnc⟩ dL_law_1558 rfl ?_
  refine ya_icmp_eq 2022 (by decide) dL_law_1561 (fun c => ?_) (fun c => ?_)
  · replace h := ya_itet h c
    exact hkj _ h
  · replace h := ya_itef h c
    refine ya_iconst 0 (by decide) dL_law_1564 ?_
    cases h
set_option maxRecDepth 20000 in
theorem w_law_c40 {X : ya_X} {nm : String} {Γ : ya_Γ} {G : ya_G} {d : ya_D} {k n : Nat} {γ : Type} {v3 : Int32} {kj : ya_D → Option γ} {rr : γ} (hG : ya_Bk ya_sh ya_ln G 0) (hdy : ya_Dy G) (hkc : k ≤ 600000) (hnc : n ≤ 7302250) (h : f_law_c40 X.2.2.2.2.2.1 G v3 d kj = some rr) (hkj : ∀ d', kj d' = some rr → ya_E X (Y_law nm) Γ 2022 [(0, .ref X.2.2.2.2.2.1.1), (1, .ref (X.2.1 + 0)), (2, .ref (X.2.1 + 83)), (3, .int v3)] [] G d' k n) : ya_E X (Y_law nm) Γ 1566 [(0, .ref X.2.2.2.2.2.1.1), (1, .ref (X.2.1 + 0)), (2, .ref (X.2.1 + 83)), (3, .int v3)] [] G d k n := by
  unfold f_law_c40 at h
  refine ya_aload_n 1 rfl dL_law_1566 ?_
  refine ya_aload_n 0 rfl dL_law_1567 ?_
  refine ya_iload_n 3 rfl dL_law_1568 ?_
  refine ya_iconst 1 (by decide) dL_law_1569 ?_
  refine ya_iadd dL_law_1570 ?_
  refine ya_sald dL_law_1571 h (fun x1571 h => ?_)
  refine ya_aload_n 0 rfl dL_law_1572 ?_
  refine ya_iload_n 3 rfl dL_law_1573 ?_
  refine ya_iconst 2 (by decide) dL_law_1574 ?_
  refine ya_iadd dL_law_1575 ?_
  refine ya_sald dL_law_1576 h (fun x1576 h => ?_)
  obtain ⟨x1577, d1577, e1577, h⟩ := ya_ob2 h
  refine ya_callVi (S := []) (c_X11_clears hG e1577) m_X11_clears ⟨rfl, rfl⟩ ml_L_179 rfl ⟨Nat.le_of_ble_eq_true rfl, Nat.le_of_ble_eq_true rfl⟩ (Nat.le_of_ble_eq_true rfl) (hG.lt0 0 (by decide)) (hG.o0 0 rfl) (by decide) rfl rfl ⟨hkc, hnc⟩ dL_law_1577 rfl ?_
  refine ya_aload_n 2 rfl dL_law_1580 ?_
  refine ya_aload_n 0 rfl dL_law_1581 ?_
  refine ya_iload_n 3 rfl dL_law_1582 ?_
  refine ya_iconst 1 (by decide) dL_law_1583 ?_
  refine ya_iadd dL_law_1584 ?_
  refine ya_sald dL_law_1585 h (fun x1585 h => ?_)
  refine ya_aload_n 0 rfl dL_law_1586 ?_
  refine ya_iload_n 3 rfl dL_law_1587 ?_
  refine ya_iconst 2 (by decide) dL_law_1588 ?_
  refine ya_iadd dL_law_1589 ?_
  refine ya_sald dL_law_1590 h (fun x1590 h => ?_)
  obtain ⟨x1591, d1591, e1591, h⟩ := ya_ob2 h
  refine ya_callVi (S := [.int x1577]) (c_X12_clears hG e1591) m_X12_clears ⟨rfl, rfl⟩ ml_L_182 rfl ⟨Nat.le_of_ble_eq_true rfl, Nat.le_of_ble_eq_true rfl⟩ (Nat.le_of_ble_eq_true rfl) (hG.lt0 83 (by decide)) (hG.o0 83 rfl) (by decide) rfl rfl ⟨hkc, hnc⟩ dL_law_1591 rfl ?_
  refine ya_icmp_eq 2022 (by decide) dL_law_1594 (fun c => ?_) (fun c => ?_)
  · replace h := ya_itet h c
    exact hkj _ h
  · replace h := ya_itef h c
    refine ya_iconst 0 (by decide) dL_law_1597 ?_
    cases h
set_option maxRecDepth 20000 in
theorem w_law_c41 {X : ya_X} {nm : String} {Γ : ya_Γ} {G : ya_G} {d : ya_D} {k n : Nat} {γ : Type} {v3 : Int32} {kj : ya_D → Option γ} {rr : γ} (hG : ya_Bk ya_sh ya_ln G 0) (hdy : ya_Dy G) (hkc : k ≤ 600000) (hnc : n ≤ 7302250) (h : f_law_c41 X.2.2.2.2.2.1 G v3 d kj = some rr) (hkj : ∀ d', kj d' = some rr → ya_E X (Y_law nm) Γ 2022 [(0, .ref X.2.2.2.2.2.1.1), (1, .ref (X.2.1 + 0)), (2, .ref (X.2.1 + 83)), (3, .int v3)] [] G d' k n) : ya_E X (Y_law nm) Γ 1599 [(0, .ref X.2.2.2.2.2.1.1), (1, .ref (X.2.1 + 0)), (2, .ref (X.2.1 + 83)), (3, .int v3)] [] G d k n := by
  unfold f_law_c41 at h
  refine ya_aload_n 1 rfl dL_law_1599 ?_
  refine ya_aload_n 0 rfl dL_law_1600 ?_
  refine ya_iload_n 3 rfl dL_law_1601 ?_
  refine ya_iconst 1 (by decide) dL_law_1602 ?_
  refine ya_iadd dL_law_1603 ?_
  refine ya_sald dL_law_1604 h (fun x1604 h => ?_)
  obtain ⟨x1605, d1605, e1605, h⟩ := ya_ob2 h
  refine ya_callVi (S := []) (c_X11_poor hG e1605) m_X11_poor ⟨rfl, rfl⟩ ml_L_183 rfl ⟨Nat.le_of_ble_eq_true rfl, Nat.le_of_ble_eq_true rfl⟩ (Nat.le_of_ble_eq_true rfl) (hG.lt0 0 (by decide)) (hG.o0 0 rfl) (by decide) rfl rfl ⟨hkc, hnc⟩ dL_law_1605 rfl ?_
  refine ya_aload_n 2 rfl dL_law_1608 ?_
  refine ya_aload_n 0 rfl dL_law_1609 ?_
  refine ya_iload_n 3 rfl dL_law_1610 ?_
  refine ya_iconst 1 (by decide) dL_law_1611 ?_
  refine ya_iadd dL_law_1612 ?_
  refine ya_sald dL_law_1613 h (fun x1613 h => ?_)
  obtain ⟨x1614, d1614, e1614, h⟩ := ya_ob2 h
  refine ya_callVi (S := [.int x1605]) (c_X12_poor hG e1614) m_X12_poor ⟨rfl, rfl⟩ ml_L_186 rfl ⟨Nat.le_of_ble_eq_true rfl, Nat.le_of_ble_eq_true rfl⟩ (Nat.le_of_ble_eq_true rfl) (hG.lt0 83 (by decide)) (hG.o0 83 rfl) (by decide) rfl rfl ⟨hkc, hnc⟩ dL_law_1614 rfl ?_
  refine ya_icmp_eq 2022 (by decide) dL_law_1617 (fun c => ?_) (fun c => ?_)
  · replace h := ya_itet h c
    exact hkj _ h
  · replace h := ya_itef h c
    refine ya_iconst 0 (by decide) dL_law_1620 ?_
    cases h
set_option maxRecDepth 20000 in
theorem w_law_c42 {X : ya_X} {nm : String} {Γ : ya_Γ} {G : ya_G} {d : ya_D} {k n : Nat} {γ : Type} {v3 : Int32} {kj : ya_D → Option γ} {rr : γ} (hG : ya_Bk ya_sh ya_ln G 0) (hdy : ya_Dy G) (hkc : k ≤ 600000) (hnc : n ≤ 7302250) (h : f_law_c42 X.2.2.2.2.2.1 G v3 d kj = some rr) (hkj : ∀ d', kj d' = some rr → ya_E X (Y_law nm) Γ 2022 [(0, .ref X.2.2.2.2.2.1.1), (1, .ref (X.2.1 + 0)), (2, .ref (X.2.1 + 83)), (3, .int v3)] [] G d' k n) : ya_E X (Y_law nm) Γ 1622 [(0, .ref X.2.2.2.2.2.1.1), (1, .ref (X.2.1 + 0)), (2, .ref (X.2.1 + 83)), (3, .int v3)] [] G d k n := by
  unfold f_law_c42 at h
  refine ya_aload_n 1 rfl dL_law_1622 ?_
  refine ya_aload_n 0 rfl dL_law_1623 ?_
  refine ya_iload_n 3 rfl dL_law_1624 ?_
  refine ya_iconst 1 (by decide) dL_law_1625 ?_
  refine ya_iadd dL_law_1626 ?_
  refine ya_sald dL_law_1627 h (fun x1627 h => ?_)
  refine ya_aload_n 0 rfl dL_law_1628 ?_
  refine ya_iload_n 3 rfl dL_law_1629 ?_
  refine ya_iconst 2 (by decide) dL_law_1630 ?_
  refine ya_iadd dL_law_1631 ?_
  refine ya_sald dL_law_1632 h (fun x1632 h => ?_)
  obtain ⟨x1633, d1633, e1633, h⟩ := ya_ob2 h
  refine ya_callVi (S := []) (c_X11_village hG e1633) m_X11_village ⟨rfl, rfl⟩ ml_L_187 rfl ⟨Nat.le_of_ble_eq_true rfl, Nat.le_of_ble_eq_true rfl⟩ (Nat.le_of_ble_eq_true rfl) (hG.lt0 0 (by decide)) (hG.o0 0 rfl) (by decide) rfl rfl ⟨hkc, hnc⟩ dL_law_1633 rfl ?_
  refine ya_aload_n 2 rfl dL_law_1636 ?_
  refine ya_aload_n 0 rfl dL_law_1637 ?_
  refine ya_iload_n 3 rfl dL_law_1638 ?_
  refine ya_iconst 1 (by decide) dL_law_1639 ?_
  refine ya_iadd dL_law_1640 ?_
  refine ya_sald dL_law_1641 h (fun x1641 h => ?_)
  refine ya_aload_n 0 rfl dL_law_1642 ?_
  refine ya_iload_n 3 rfl dL_law_1643 ?_
  refine ya_iconst 2 (by decide) dL_law_1644 ?_
  refine ya_iadd dL_law_1645 ?_
  refine ya_sald dL_law_1646 h (fun x1646 h => ?_)
  obtain ⟨x1647, d1647, e1647, h⟩ := ya_ob2 h
  refine ya_callVi (S := [.int x1633]) (c_X12_village hG e1647) m_X12_village ⟨rfl, rfl⟩ ml_L_190 rfl ⟨Nat.le_of_ble_eq_true rfl, Nat.le_of_ble_eq_true rfl⟩ (Nat.le_of_ble_eq_true rfl) (hG.lt0 83 (by decide)) (hG.o0 83 rfl) (by decide) rfl rfl ⟨hkc, hnc⟩ dL_law_1647 rfl ?_
  refine ya_icmp_eq 2022 (by decide) dL_law_1650 (fun c => ?_) (fun c => ?_)
  · replace h := ya_itet h c
    exact hkj _ h
  · replace h := ya_itef h c
    refine ya_iconst 0 (by decide) dL_law_1653 ?_
    cases h
set_option maxRecDepth 20000 in
theorem w_law_c43 {X : ya_X} {nm : String} {Γ : ya_Γ} {G : ya_G} {d : ya_D} {k n : Nat} {γ : Type} {v3 : Int32} {kj : ya_D → Option γ} {rr : γ} (hG : ya_Bk ya_sh ya_ln G 0) (hdy : ya_Dy G) (hkc : k ≤ 600000) (hnc : n ≤ 7302250) (h : f_law_c43 X.2.2.2.2.2.1 G v3 d kj = some rr) (hkj : ∀ d', kj d' = some rr → ya_E X (Y_law nm) Γ 2022 [(0, .ref X.2.2.2.2.2.1.1), (1, .ref (X.2.1 + 0)), (2, .ref (X.2.1 + 83)), (3, .int v3)] [] G d' k n) : ya_E X (Y_law nm) Γ 1655 [(0, .ref X.2.2.2.2.2.1.1), (1, .ref (X.2.1 + 0)), (2, .ref (X.2.1 + 83)), (3, .int v3)] [] G d k n := by
  unfold f_law_c43 at h
  refine ya_aload_n 1 rfl dL_law_1655 ?_
  refine ya_aload_n 0 rfl dL_law_1656 ?_
  refine ya_iload_n 3 rfl dL_law_1657 ?_
  refine ya_iconst 1 (by decide) dL_law_1658 ?_
  refine ya_iadd dL_law_1659 ?_
  refine ya_sald dL_law_1660 h (fun x1660 h => ?_)
  refine ya_aload_n 0 rfl dL_law_1661 ?_
  refine ya_iload_n 3 rfl dL_law_1662 ?_
  refine ya_iconst 2 (by decide) dL_law_1663 ?_
  refine ya_iadd dL_law_1664 ?_
  refine ya_sald dL_law_1665 h (fun x1665 h => ?_)
  refine ya_aload_n 0 rfl dL_law_1666 ?_
  refine ya_iload_n 3 rfl dL_law_1667 ?_
  refine ya_iconst 3 (by decide) dL_law_1668 ?_
  refine ya_iadd dL_law_1669 ?_
  refine ya_sald dL_law_1670 h (fun x1670 h => ?_)
  obtain ⟨x1671, d1671, e1671, h⟩ := ya_ob2 h
  refine ya_callVi (S := []) (c_X11_chance hG e1671) m_X11_chance ⟨rfl, rfl⟩ ml_L_191 rfl ⟨Nat.le_of_ble_eq_true rfl, Nat.le_of_ble_eq_true rfl⟩ (Nat.le_of_ble_eq_true rfl) (hG.lt0 0 (by decide)) (hG.o0 0 rfl) (by decide) rfl rfl ⟨hkc, hnc⟩ dL_law_1671 rfl ?_
  refine ya_aload_n 2 rfl dL_law_1674 ?_
  refine ya_aload_n 0 rfl dL_law_1675 ?_
  refine ya_iload_n 3 rfl dL_law_1676 ?_
  refine ya_iconst 1 (by decide) dL_law_1677 ?_
  refine ya_iadd dL_law_1678 ?_
  refine ya_sald dL_law_1679 h (fun x1679 h => ?_)
  refine ya_aload_n 0 rfl dL_law_1680 ?_
  refine ya_iload_n 3 rfl dL_law_1681 ?_
  refine ya_iconst 2 (by decide) dL_law_1682 ?_
  refine ya_iadd dL_law_1683 ?_
  refine ya_sald dL_law_1684 h (fun x1684 h => ?_)
  refine ya_aload_n 0 rfl dL_law_1685 ?_
  refine ya_iload_n 3 rfl dL_law_1686 ?_
  refine ya_iconst 3 (by decide) dL_law_1687 ?_
  refine ya_iadd dL_law_1688 ?_
  refine ya_sald dL_law_1689 h (fun x1689 h => ?_)
  obtain ⟨x1690, d1690, e1690, h⟩ := ya_ob2 h
  refine ya_callVi (S := [.int x1671]) (c_X12_chance hG e1690) m_X12_chance ⟨rfl, rfl⟩ ml_L_194 rfl ⟨Nat.le_of_ble_eq_true rfl, Nat.le_of_ble_eq_true rfl⟩ (Nat.le_of_ble_eq_true rfl) (hG.lt0 83 (by decide)) (hG.o0 83 rfl) (by decide) rfl rfl ⟨hkc, hnc⟩ dL_law_1690 rfl ?_
  refine ya_icmp_eq 2022 (by decide) dL_law_1693 (fun c => ?_) (fun c => ?_)
  · replace h := ya_itet h c
    exact hkj _ h
  · replace h := ya_itef h c
    refine ya_iconst 0 (by decide) dL_law_1696 ?_
    cases h
set_option maxRecDepth 20000 in
theorem w_law_c44 {X : ya_X} {nm : String} {Γ : ya_Γ} {G : ya_G} {d : ya_D} {k n : Nat} {γ : Type} {v3 : Int32} {kj : ya_D → Option γ} {rr : γ} (hG : ya_Bk ya_sh ya_ln G 0) (hdy : ya_Dy G) (hkc : k ≤ 600000) (hnc : n ≤ 7302250) (h : f_law_c44 X.2.2.2.2.2.1 G v3 d kj = some rr) (hkj : ∀ d', kj d' = some rr → ya_E X (Y_law nm) Γ 2022 [(0, .ref X.2.2.2.2.2.1.1), (1, .ref (X.2.1 + 0)), (2, .ref (X.2.1 + 83)), (3, .int v3)] [] G d' k n) : ya_E X (Y_law nm) Γ 1698 [(0, .ref X.2.2.2.2.2.1.1), (1, .ref (X.2.1 + 0)), (2, .ref (X.2.1 + 83)), (3, .int v3)] [] G d k n := by
  unfold f_law_c44 at h
  refine ya_aload_n 1 rfl dL_law_1698 ?_
  refine ya_aload_n 0 rfl dL_law_1699 ?_
  refine ya_iload_n 3 rfl dL_law_1700 ?_
  refine ya_iconst 1 (by decide) dL_law_1701 ?_
  refine ya_iadd dL_law_1702 ?_
  refine ya_sald dL_law_1703 h (fun x1703 h => ?_)
  refine ya_aload_n 0 rfl dL_law_1704 ?_
  refine ya_iload_n 3 rfl dL_law_1705 ?_
  refine ya_iconst 2 (by decide) dL_law_1706 ?_
  refine ya_iadd dL_law_1707 ?_
  refine ya_sald dL_law_1708 h (fun x1708 h => ?_)
  obtain ⟨x1709, d1709, e1709, h⟩ := ya_ob2 h
  refine ya_callVi (S := []) (c_X11_lots hG e1709) m_X11_lots ⟨rfl, rfl⟩ ml_L_195 rfl ⟨Nat.le_of_ble_eq_true rfl, Nat.le_of_ble_eq_true rfl⟩ (Nat.le_of_ble_eq_true rfl) (hG.lt0 0 (by decide)) (hG.o0 0 rfl) (by decide) rfl rfl ⟨hkc, hnc⟩ dL_law_1709 rfl ?_
  refine ya_aload_n 2 rfl dL_law_1712 ?_
  refine ya_aload_n 0 rfl dL_law_1713 ?_
  refine ya_iload_n 3 rfl dL_law_1714 ?_
  refine ya_iconst 1 (by decide) dL_law_1715 ?_
  refine ya_iadd dL_law_1716 ?_
  refine ya_sald dL_law_1717 h (fun x1717 h => ?_)
  refine ya_aload_n 0 rfl dL_law_1718 ?_
  refine ya_iload_n 3 rfl dL_law_1719 ?_
  refine ya_iconst 2 (by decide) dL_law_1720 ?_
  refine ya_iadd dL_law_1721 ?_
  refine ya_sald dL_law_1722 h (fun x1722 h => ?_)
  obtain ⟨x1723, d1723, e1723, h⟩ := ya_ob2 h
  refine ya_callVi (S := [.int x1709]) (c_X12_lots hG e1723) m_X12_lots ⟨rfl, rfl⟩ ml_L_198 rfl ⟨Nat.le_of_ble_eq_true rfl, Nat.le_of_ble_eq_true rfl⟩ (Nat.le_of_ble_eq_true rfl) (hG.lt0 83 (by decide)) (hG.o0 83 rfl) (by decide) rfl rfl ⟨hkc, hnc⟩ dL_law_1723 rfl ?_
  refine ya_icmp_eq 2022 (by decide) dL_law_1726 (fun c => ?_) (fun c => ?_)
  · replace h := ya_itet h c
    exact hkj _ h
  · replace h := ya_itef h c
    refine ya_iconst 0 (by decide) dL_law_1729 ?_
    cases h
set_option maxRecDepth 20000 in
theorem w_law_c45 {X : ya_X} {nm : String} {Γ : ya_Γ} {G : ya_G} {d : ya_D} {k n : Nat} {γ : Type} {v3 : Int32} {kj : ya_D → Option γ} {rr : γ} (hG : ya_Bk ya_sh ya_ln G 0) (hdy : ya_Dy G) (hkc : k ≤ 600000) (hnc : n ≤ 7302250) (h : f_law_c45 X.2.2.2.2.2.1 G v3 d kj = some rr) (hkj : ∀ d', kj d' = some rr → ya_E X (Y_law nm) Γ 2022 [(0, .ref X.2.2.2.2.2.1.1), (1, .ref (X.2.1 + 0)), (2, .ref (X.2.1 + 83)), (3, .int v3)] [] G d' k n) : ya_E X (Y_law nm) Γ 1731 [(0, .ref X.2.2.2.2.2.1.1), (1, .ref (X.2.1 + 0)), (2, .ref (X.2.1 + 83)), (3, .int v3)] [] G d k n := by
  unfold f_law_c45 at h
  refine ya_aload_n 1 rfl dL_law_1731 ?_
  refine ya_aload_n 0 rfl dL_law_1732 ?_
  refine ya_iload_n 3 rfl dL_law_1733 ?_
  refine ya_iconst 1 (by decide) dL_law_1734 ?_
  refine ya_iadd dL_law_1735 ?_
  refine ya_sald dL_law_1736 h (fun x1736 h => ?_)
  refine ya_aload_n 0 rfl dL_law_1737 ?_
  refine ya_iload_n 3 rfl dL_law_1738 ?_
  refine ya_iconst 2 (by decide) dL_law_1739 ?_
  refine ya_iadd dL_law_1740 ?_
  refine ya_sald dL_law_1741 h (fun x1741 h => ?_)
  refine ya_aload_n 0 rfl dL_law_1742 ?_
  refine ya_iload_n 3 rfl dL_law_1743 ?_
  refine ya_iconst 3 (by decide) dL_law_1744 ?_
  refine ya_iadd dL_law_1745 ?_
  refine ya_sald dL_law_1746 h (fun x1746 h => ?_)
  obtain ⟨x1747, d1747, e1747, h⟩ := ya_ob2 h
  refine ya_callVi (S := []) (c_X11_years hG e1747) m_X11_years ⟨rfl, rfl⟩ ml_L_199 rfl ⟨Nat.le_of_ble_eq_true rfl, Nat.le_of_ble_eq_true rfl⟩ (Nat.le_of_ble_eq_true rfl) (hG.lt0 0 (by decide)) (hG.o0 0 rfl) (by decide) rfl rfl ⟨hkc, hnc⟩ dL_law_1747 rfl ?_
  refine ya_aload_n 2 rfl dL_law_1750 ?_
  refine ya_aload_n 0 rfl dL_law_1751 ?_
  refine ya_iload_n 3 rfl dL_law_1752 ?_
  refine ya_iconst 1 (by decide) dL_law_1753 ?_
  refine ya_iadd dL_law_1754 ?_
  refine ya_sald dL_law_1755 h (fun x1755 h => ?_)
  refine ya_aload_n 0 rfl dL_law_1756 ?_
  refine ya_iload_n 3 rfl dL_law_1757 ?_
  refine ya_iconst 2 (by decide) dL_law_1758 ?_
  refine ya_iadd dL_law_1759 ?_
  refine ya_sald dL_law_1760 h (fun x1760 h => ?_)
  refine ya_aload_n 0 rfl dL_law_1761 ?_
  refine ya_iload_n 3 rfl dL_law_1762 ?_
  refine ya_iconst 3 (by decide) dL_law_1763 ?_
  refine ya_iadd dL_law_1764 ?_
  refine ya_sald dL_law_1765 h (fun x1765 h => ?_)
  obtain ⟨x1766, d1766, e1766, h⟩ := ya_ob2 h
  refine ya_callVi (S := [.int x1747]) (c_X12_years hG e1766) m_X12_years ⟨rfl, rfl⟩ ml_L_202 rfl ⟨Nat.le_of_ble_eq_true rfl, Nat.le_of_ble_eq_true rfl⟩ (Nat.le_of_ble_eq_true rfl) (hG.lt0 83 (by decide)) (hG.o0 83 rfl) (by decide) rfl rfl ⟨hkc, hnc⟩ dL_law_1766 rfl ?_
  refine ya_icmp_eq 2022 (by decide) dL_law_1769 (fun c => ?_) (fun c => ?_)
  · replace h := ya_itet h c
    exact hkj _ h
  · replace h := ya_itef h c
    refine ya_iconst 0 (by decide) dL_law_1772 ?_
    cases h
set_option maxRecDepth 20000 in
theorem w_law_c46 {X : ya_X} {nm : String} {Γ : ya_Γ} {G : ya_G} {d : ya_D} {k n : Nat} {γ : Type} {v3 : Int32} {kj : ya_D → Option γ} {rr : γ} (hG : ya_Bk ya_sh ya_ln G 0) (hdy : ya_Dy G) (hkc : k ≤ 600000) (hnc : n ≤ 7302250) (h : f_law_c46 X.2.2.2.2.2.1 G v3 d kj = some rr) (hkj : ∀ d', kj d' = some rr → ya_E X (Y_law nm) Γ 2022 [(0, .ref X.2.2.2.2.2.1.1), (1, .ref (X.2.1 + 0)), (2, .ref (X.2.1 + 83)), (3, .int v3)] [] G d' k n) : ya_E X (Y_law nm) Γ 1774 [(0, .ref X.2.2.2.2.2.1.1), (1, .ref (X.2.1 + 0)), (2, .ref (X.2.1 + 83)), (3, .int v3)] [] G d k n := by
  unfold f_law_c46 at h
  refine ya_aload_n 1 rfl dL_law_1774 ?_
  refine ya_aload_n 0 rfl dL_law_1775 ?_
  refine ya_iload_n 3 rfl dL_law_1776 ?_
  refine ya_iconst 1 (by decide) dL_law_1777 ?_
  refine ya_iadd dL_law_1778 ?_
  refine ya_sald dL_law_1779 h (fun x1779 h => ?_)
  obtain ⟨x1780, e1780, h⟩ := ya_ob h
  refine ya_callVi (S := []) (c_X11_count hG hdy e1780) m_X11_count ⟨rfl, rfl⟩ ml_L_203 rfl ⟨Nat.le_of_ble_eq_true rfl, Nat.le_of_ble_eq_true rfl⟩ (Nat.le_of_ble_eq_true rfl) (hG.lt0 0 (by decide)) (hG.o0 0 rfl) (by decide) rfl rfl ⟨hkc, hnc⟩ dL_law_1780 rfl ?_
  refine ya_aload_n 2 rfl dL_law_1783 ?_
  refine ya_aload_n 0 rfl dL_law_1784 ?_
  refine ya_iload_n 3 rfl dL_law_1785 ?_
  refine ya_iconst 1 (by decide) dL_law_1786 ?_
  refine ya_iadd dL_law_1787 ?_
  refine ya_sald dL_law_1788 h (fun x1788 h => ?_)
  obtain ⟨x1789, e1789, h⟩ := ya_ob h
  refine ya_callVi (S := [.int x1780]) (c_X12_count hG e1789) m_X12_count ⟨rfl, rfl⟩ ml_L_206 rfl ⟨Nat.le_of_ble_eq_true rfl, Nat.le_of_ble_eq_true rfl⟩ (Nat.le_of_ble_eq_true rfl) (hG.lt0 83 (by decide)) (hG.o0 83 rfl) (by decide) rfl rfl ⟨hkc, hnc⟩ dL_law_1789 rfl ?_
  refine ya_icmp_eq 2022 (by decide) dL_law_1792 (fun c => ?_) (fun c => ?_)
  · replace h := ya_itet h c
    exact hkj _ h
  · replace h := ya_itef h c
    refine ya_iconst 0 (by decide) dL_law_1795 ?_
    cases h
set_option maxRecDepth 20000 in
theorem w_law_c48 {X : ya_X} {nm : String} {Γ : ya_Γ} {G : ya_G} {d : ya_D} {k n : Nat} {γ : Type} {v3 : Int32} {kj : ya_D → Option γ} {rr : γ} (hG : ya_Bk ya_sh ya_ln G 0) (hdy : ya_Dy G) (hkc : k ≤ 600000) (hnc : n ≤ 7302250) (h : f_law_c48 X.2.2.2.2.2.1 G v3 d kj = some rr) (hkj : ∀ d', kj d' = some rr → ya_E X (Y_law nm) Γ 2022 [(0, .ref X.2.2.2.2.2.1.1), (1, .ref (X.2.1 + 0)), (2, .ref (X.2.1 + 83)), (3, .int v3)] [] G d' k n) : ya_E X (Y_law nm) Γ 1820 [(0, .ref X.2.2.2.2.2.1.1), (1, .ref (X.2.1 + 0)), (2, .ref (X.2.1 + 83)), (3, .int v3)] [] G d k n := by
  unfold f_law_c48 at h
  refine ya_aload_n 1 rfl dL_law_1820 ?_
  refine ya_aload_n 0 rfl dL_law_1821 ?_
  refine ya_iload_n 3 rfl dL_law_1822 ?_
  refine ya_iconst 1 (by decide) dL_law_1823 ?_
  refine ya_iadd dL_law_1824 ?_
  refine ya_sald dL_law_1825 h (fun x1825 h => ?_)
  obtain ⟨x1826, d1826, e1826, h⟩ := ya_ob2 h
  refine ya_callVi (S := []) (c_X11_restore hG hdy e1826) m_X11_restore ⟨rfl, rfl⟩ ml_L_211 rfl ⟨Nat.le_of_ble_eq_true rfl, Nat.le_of_ble_eq_true rfl⟩ (Nat.le_of_ble_eq_true rfl) (hG.lt0 0 (by decide)) (hG.o0 0 rfl) (by decide) rfl rfl ⟨hkc, hnc⟩ dL_law_1826 rfl ?_
  refine ya_aload_n 2 rfl dL_law_1829 ?_
  refine ya_aload_n 0 rfl dL_law_1830 ?_
  refine ya_iload_n 3 rfl dL_law_1831 ?_
  refine ya_iconst 1 (by decide) dL_law_1832 ?_
  refine ya_iadd dL_law_1833 ?_
  refine ya_sald dL_law_1834 h (fun x1834 h => ?_)
  obtain ⟨x1835, d1835, e1835, h⟩ := ya_ob2 h
  refine ya_callVi (S := [.int x1826]) (c_X12_restore hG e1835) m_X12_restore ⟨rfl, rfl⟩ ml_L_214 rfl ⟨Nat.le_of_ble_eq_true rfl, Nat.le_of_ble_eq_true rfl⟩ (Nat.le_of_ble_eq_true rfl) (hG.lt0 83 (by decide)) (hG.o0 83 rfl) (by decide) rfl rfl ⟨hkc, hnc⟩ dL_law_1835 rfl ?_
  refine ya_icmp_eq 2022 (by decide) dL_law_1838 (fun c => ?_) (fun c => ?_)
  · replace h := ya_itet h c
    exact hkj _ h
  · replace h := ya_itef h c
    refine ya_iconst 0 (by decide) dL_law_1841 ?_
    cases h
set_option maxRecDepth 20000 in
theorem w_law_c50 {X : ya_X} {nm : String} {Γ : ya_Γ} {G : ya_G} {d : ya_D} {k n : Nat} {γ : Type} {v3 : Int32} {kj : ya_D → Option γ} {rr : γ} (hG : ya_Bk ya_sh ya_ln G 0) (hdy : ya_Dy G) (hkc : k ≤ 600000) (hnc : n ≤ 7302250) (h : f_law_c50 X.2.2.2.2.2.1 G v3 d kj = some rr) (hkj : ∀ d', kj d' = some rr → ya_E X (Y_law nm) Γ 2022 [(0, .ref X.2.2.2.2.2.1.1), (1, .ref (X.2.1 + 0)), (2, .ref (X.2.1 + 83)), (3, .int v3)] [] G d' k n) : ya_E X (Y_law nm) Γ 1886 [(0, .ref X.2.2.2.2.2.1.1), (1, .ref (X.2.1 + 0)), (2, .ref (X.2.1 + 83)), (3, .int v3)] [] G d k n := by
  unfold f_law_c50 at h
  refine ya_aload_n 1 rfl dL_law_1886 ?_
  refine ya_aload_n 0 rfl dL_law_1887 ?_
  refine ya_iload_n 3 rfl dL_law_1888 ?_
  refine ya_iconst 1 (by decide) dL_law_1889 ?_
  refine ya_iadd dL_law_1890 ?_
  refine ya_sald dL_law_1891 h (fun x1891 h => ?_)
  refine ya_aload_n 0 rfl dL_law_1892 ?_
  refine ya_iload_n 3 rfl dL_law_1893 ?_
  refine ya_iconst 2 (by decide) dL_law_1894 ?_
  refine ya_iadd dL_law_1895 ?_
  refine ya_sald dL_law_1896 h (fun x1896 h => ?_)
  refine ya_aload_n 0 rfl dL_law_1897 ?_
  refine ya_iload_n 3 rfl dL_law_1898 ?_
  refine ya_iconst 3 (by decide) dL_law_1899 ?_
  refine ya_iadd dL_law_1900 ?_
  refine ya_sald dL_law_1901 h (fun x1901 h => ?_)
  refine ya_i2l dL_law_1902 ?_
  refine ya_bipush 32 (by decide) dL_law_1903 ?_
  refine ya_lshl dL_law_1905 ?_
  refine ya_aload_n 0 rfl dL_law_1906 ?_
  refine ya_iload_n 3 rfl dL_law_1907 ?_
  refine ya_iconst 4 (by decide) dL_law_1908 ?_
  refine ya_iadd dL_law_1909 ?_
  refine ya_sald dL_law_1910 h (fun x1910 h => ?_)
  refine ya_i2l dL_law_1911 ?_
  refine ya_ldc2 4294967295 kc_L_219 dL_law_1912 ?_
  refine ya_land dL_law_1915 ?_
  refine ya_lor dL_law_1916 ?_
  obtain ⟨x1917, d1917, e1917, h⟩ := ya_ob2 h
  refine ya_callVi (S := []) (c_X11_write hG hdy e1917) m_X11_write ⟨rfl, rfl⟩ ml_L_221 rfl ⟨Nat.le_of_ble_eq_true rfl, Nat.le_of_ble_eq_true rfl⟩ (Nat.le_of_ble_eq_true rfl) (hG.lt0 0 (by decide)) (hG.o0 0 rfl) (by decide) rfl rfl ⟨hkc, hnc⟩ dL_law_1917 rfl ?_
  refine ya_aload_n 2 rfl dL_law_1920 ?_
  refine ya_aload_n 0 rfl dL_law_1921 ?_
  refine ya_iload_n 3 rfl dL_law_1922 ?_
  refine ya_iconst 1 (by decide) dL_law_1923 ?_
  refine ya_iadd dL_law_1924 ?_
  refine ya_sald dL_law_1925 h (fun x1925 h => ?_)
  refine ya_aload_n 0 rfl dL_law_1926 ?_
  refine ya_iload_n 3 rfl dL_law_1927 ?_
  refine ya_iconst 2 (by decide) dL_law_1928 ?_
  refine ya_iadd dL_law_1929 ?_
  refine ya_sald dL_law_1930 h (fun x1930 h => ?_)
  refine ya_aload_n 0 rfl dL_law_1931 ?_
  refine ya_iload_n 3 rfl dL_law_1932 ?_
  refine ya_iconst 3 (by decide) dL_law_1933 ?_
  refine ya_iadd dL_law_1934 ?_
  refine ya_sald dL_law_1935 h (fun x1935 h => ?_)
  refine ya_i2l dL_law_1936 ?_
  refine ya_bipush 32 (by decide) dL_law_1937 ?_
  refine ya_lshl dL_law_1939 ?_
  refine ya_aload_n 0 rfl dL_law_1940 ?_
  refine ya_iload_n 3 rfl dL_law_1941 ?_
  refine ya_iconst 4 (by decide) dL_law_1942 ?_
  refine ya_iadd dL_law_1943 ?_
  refine ya_sald dL_law_1944 h (fun x1944 h => ?_)
  refine ya_i2l dL_law_1945 ?_
  refine ya_ldc2 4294967295 kc_L_219 dL_law_1946 ?_
  refine ya_land dL_law_1949 ?_
  refine ya_lor dL_law_1950 ?_
  obtain ⟨x1951, d1951, e1951, h⟩ := ya_ob2 h
  refine ya_callVi (S := [.int x1917]) (c_X12_write hG e1951) m_X12_write ⟨rfl, rfl⟩ ml_L_225 rfl ⟨Nat.le_of_ble_eq_true rfl, Nat.le_of_ble_eq_true rfl⟩ (Nat.le_of_ble_eq_true rfl) (hG.lt0 83 (by decide)) (hG.o0 83 rfl) (by decide) rfl rfl ⟨hkc, hnc⟩ dL_law_1951 rfl ?_
  refine ya_icmp_eq 2022 (by decide) dL_law_1954 (fun c => ?_) (fun c => ?_)
  · replace h := ya_itet h c
    exact hkj _ h
  · replace h := ya_itef h c
    refine ya_iconst 0 (by decide) dL_law_1957 ?_
    cases h
set_option maxRecDepth 20000 in
theorem w_law_c51 {X : ya_X} {nm : String} {Γ : ya_Γ} {G : ya_G} {d : ya_D} {k n : Nat} {γ : Type} {v3 : Int32} {kj : ya_D → Option γ} {rr : γ} (hG : ya_Bk ya_sh ya_ln G 0) (hdy : ya_Dy G) (hkc : k ≤ 600000) (hnc : n ≤ 7302250) (h : f_law_c51 X.2.2.2.2.2.1 G v3 d kj = some rr) (hkj : ∀ d', kj d' = some rr → ya_E X (Y_law nm) Γ 2022 [(0, .ref X.2.2.2.2.2.1.1), (1, .ref (X.2.1 + 0)), (2, .ref (X.2.1 + 83)), (3, .int v3)] [] G d' k n) : ya_E X (Y_law nm) Γ 1959 [(0, .ref X.2.2.2.2.2.1.1), (1, .ref (X.2.1 + 0)), (2, .ref (X.2.1 + 83)), (3, .int v3)] [] G d k n := by
  unfold f_law_c51 at h
  refine ya_aload_n 1 rfl dL_law_1959 ?_
  refine ya_aload_n 0 rfl dL_law_1960 ?_
  refine ya_iload_n 3 rfl dL_law_1961 ?_
  refine ya_iconst 1 (by decide) dL_law_1962 ?_
  refine ya_iadd dL_law_1963 ?_
  refine ya_sald dL_law_1964 h (fun x1964 h => ?_)
  refine ya_aload_n 0 rfl dL_law_1965 ?_
  refine ya_iload_n 3 rfl dL_law_1966 ?_
  refine ya_iconst 2 (by decide) dL_law_1967 ?_
  refine ya_iadd dL_law_1968 ?_
  refine ya_sald dL_law_1969 h (fun x1969 h => ?_)
  refine ya_aload_n 0 rfl dL_law_1970 ?_
  refine ya_iload_n 3 rfl dL_law_1971 ?_
  refine ya_iconst 3 (by decide) dL_law_1972 ?_
  refine ya_iadd dL_law_1973 ?_
  refine ya_sald dL_law_1974 h (fun x1974 h => ?_)
  refine ya_aload_n 0 rfl dL_law_1975 ?_
  refine ya_iload_n 3 rfl dL_law_1976 ?_
  refine ya_iconst 4 (by decide) dL_law_1977 ?_
  refine ya_iadd dL_law_1978 ?_
  refine ya_sald dL_law_1979 h (fun x1979 h => ?_)
  refine ya_aload_n 0 rfl dL_law_1980 ?_
  refine ya_iload_n 3 rfl dL_law_1981 ?_
  refine ya_iconst 5 (by decide) dL_law_1982 ?_
  refine ya_iadd dL_law_1983 ?_
  refine ya_sald dL_law_1984 h (fun x1984 h => ?_)
  obtain ⟨x1985, d1985, e1985, h⟩ := ya_ob2 h
  refine ya_callVi (S := []) (c_X11_paste hG hdy e1985) m_X11_paste ⟨rfl, rfl⟩ ml_L_226 rfl ⟨Nat.le_of_ble_eq_true rfl, Nat.le_of_ble_eq_true rfl⟩ (Nat.le_of_ble_eq_true rfl) (hG.lt0 0 (by decide)) (hG.o0 0 rfl) (by decide) rfl rfl ⟨hkc, hnc⟩ dL_law_1985 rfl ?_
  refine ya_aload_n 2 rfl dL_law_1988 ?_
  refine ya_aload_n 0 rfl dL_law_1989 ?_
  refine ya_iload_n 3 rfl dL_law_1990 ?_
  refine ya_iconst 1 (by decide) dL_law_1991 ?_
  refine ya_iadd dL_law_1992 ?_
  refine ya_sald dL_law_1993 h (fun x1993 h => ?_)
  refine ya_aload_n 0 rfl dL_law_1994 ?_
  refine ya_iload_n 3 rfl dL_law_1995 ?_
  refine ya_iconst 2 (by decide) dL_law_1996 ?_
  refine ya_iadd dL_law_1997 ?_
  refine ya_sald dL_law_1998 h (fun x1998 h => ?_)
  refine ya_aload_n 0 rfl dL_law_1999 ?_
  refine ya_iload_n 3 rfl dL_law_2000 ?_
  refine ya_iconst 3 (by decide) dL_law_2001 ?_
  refine ya_iadd dL_law_2002 ?_
  refine ya_sald dL_law_2003 h (fun x2003 h => ?_)
  refine ya_aload_n 0 rfl dL_law_2004 ?_
  refine ya_iload_n 3 rfl dL_law_2005 ?_
  refine ya_iconst 4 (by decide) dL_law_2006 ?_
  refine ya_iadd dL_law_2007 ?_
  refine ya_sald dL_law_2008 h (fun x2008 h => ?_)
  refine ya_aload_n 0 rfl dL_law_2009 ?_
  refine ya_iload_n 3 rfl dL_law_2010 ?_
  refine ya_iconst 5 (by decide) dL_law_2011 ?_
  refine ya_iadd dL_law_2012 ?_
  refine ya_sald dL_law_2013 h (fun x2013 h => ?_)
  obtain ⟨x2014, d2014, e2014, h⟩ := ya_ob2 h
  refine ya_callVi (S := [.int x1985]) (c_X12_paste hG e2014) m_X12_paste ⟨rfl, rfl⟩ ml_L_229 rfl ⟨Nat.le_of_ble_eq_true rfl, Nat.le_of_ble_eq_true rfl⟩ (Nat.le_of_ble_eq_true rfl) (hG.lt0 83 (by decide)) (hG.o0 83 rfl) (by decide) rfl rfl ⟨hkc, hnc⟩ dL_law_2014 rfl ?_
  refine ya_icmp_eq 2022 (by decide) dL_law_2017 (fun c => ?_) (fun c => ?_)
  · replace h := ya_itet h c
    exact hkj _ h
  · replace h := ya_itef h c
    refine ya_iconst 0 (by decide) dL_law_2020 ?_
    cases h
