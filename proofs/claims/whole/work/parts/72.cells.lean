theorem cv_0 (G : Gm) (i : Nat) : cellO G M0 0 i = .inr (0, [.ref (ga G 4 0), .ref (ga G 5 0), .ref (ga G 102 i), .ref (ga G 103 i), .ref (ga G 104 i), .ref (ga G 105 i), .int 0, .int 4, .int 0, .int 0, .int 0, .int 0, .int 0, .int 1, .int (-1), .int 0, .int 0]) := by
  have e : fldT 0 = [(3, 4), (3, 5), (2, 102), (2, 103), (2, 104), (2, 105), (0, 0), (0, 0), (0, 0), (0, 0), (0, 0), (0, 0), (0, 0), (0, 0), (0, 0), (0, 0), (0, 0)] := rfl
  have ha : arrT 0 = none := rfl
  unfold cellO
  rw [ha]
  show (.inr (0, (fldT 0).mapIdx (fun k q => fval G M0 0 i k q)) : va_E) = _
  rw [e]
  simp only [List.mapIdx_cons, List.mapIdx_nil]
  rfl
theorem cv_1 (G : Gm) : cellO G M0 1 0 = .inr (1, [.ref (ga G 9 0), .ref (ga G 201 0), .int 0, .int (-1)]) := by
  have e : fldT 1 = [(3, 9), (2, 201), (0, 0), (0, 0)] := rfl
  have ha : arrT 1 = none := rfl
  unfold cellO
  rw [ha]
  show (.inr (1, (fldT 1).mapIdx (fun k q => fval G M0 1 0 k q)) : va_E) = _
  rw [e]
  simp only [List.mapIdx_cons, List.mapIdx_nil]
  rfl
theorem cv_2 (G : Gm) : cellO G M0 2 0 = .inr (2, [.ref (ga G 6 0), .ref (ga G 3 0), .ref (ga G 302 0), .ref (ga G 303 0), .int 0, .int 0, .int 1, .ref (ga G 307 0), .ref (ga G 308 0), .int 0, .int 0, .int 0, .int 0, .int 0]) := by
  have e : fldT 2 = [(3, 6), (3, 3), (2, 302), (2, 303), (0, 0), (0, 0), (0, 0), (2, 307), (2, 308), (0, 0), (0, 0), (0, 0), (0, 0), (0, 0)] := rfl
  have ha : arrT 2 = none := rfl
  unfold cellO
  rw [ha]
  show (.inr (2, (fldT 2).mapIdx (fun k q => fval G M0 2 0 k q)) : va_E) = _
  rw [e]
  simp only [List.mapIdx_cons, List.mapIdx_nil]
  rfl
theorem cv_3 (G : Gm) : cellO G M0 3 0 = .inr (3, [.ref (ga G 4 0), .ref (ga G 6 0), .ref (ga G 402 0), .int (-1), .int 0]) := by
  have e : fldT 3 = [(3, 4), (3, 6), (2, 402), (0, 0), (0, 0)] := rfl
  have ha : arrT 3 = none := rfl
  unfold cellO
  rw [ha]
  show (.inr (3, (fldT 3).mapIdx (fun k q => fval G M0 3 0 k q)) : va_E) = _
  rw [e]
  simp only [List.mapIdx_cons, List.mapIdx_nil]
  rfl
theorem cv_4 (G : Gm) : cellO G M0 4 0 = .inr (4, [.ref (ga G 9 0), .ref (ga G 501 0), .ref (ga G 502 0), .ref (ga G 503 0), .int 0, .int 0, .int 0, .int 4, .ref (ga G 508 0), .ref (ga G 509 0), .ref (ga G 510 0), .ref (ga G 511 0), .ref (ga G 512 0)]) := by
  have e : fldT 4 = [(3, 9), (2, 501), (2, 502), (2, 503), (0, 0), (0, 0), (0, 0), (0, 0), (2, 508), (2, 509), (2, 510), (2, 511), (2, 512)] := rfl
  have ha : arrT 4 = none := rfl
  unfold cellO
  rw [ha]
  show (.inr (4, (fldT 4).mapIdx (fun k q => fval G M0 4 0 k q)) : va_E) = _
  rw [e]
  simp only [List.mapIdx_cons, List.mapIdx_nil]
  rfl
theorem cv_5 (G : Gm) : cellO G M0 5 0 = .inr (5, [.ref (ga G 4 0), .int 0, .int 0, .int 0, .int 0, .int 0, .int 0, .int 0, .int 0]) := by
  have e : fldT 5 = [(3, 4), (0, 0), (0, 0), (0, 0), (0, 0), (0, 0), (0, 0), (0, 0), (0, 0)] := rfl
  have ha : arrT 5 = none := rfl
  unfold cellO
  rw [ha]
  show (.inr (5, (fldT 5).mapIdx (fun k q => fval G M0 5 0 k q)) : va_E) = _
  rw [e]
  simp only [List.mapIdx_cons, List.mapIdx_nil]
  rfl
theorem cv_6 (G : Gm) (i : Nat) : cellO G M0 6 i = .inr (6, [.int 0, .int 0, .ref (ga G 702 i), .ref (ga G 703 i), .ref (ga G 704 i), .int 0, .int 0, .ref (ga G 707 i), .int 0, .ref (ga G 709 i), .ref (ga G 710 i), .int 0]) := by
  have e : fldT 6 = [(0, 0), (0, 0), (2, 702), (2, 703), (2, 704), (0, 0), (0, 0), (2, 707), (0, 0), (2, 709), (2, 710), (0, 0)] := rfl
  have ha : arrT 6 = none := rfl
  unfold cellO
  rw [ha]
  show (.inr (6, (fldT 6).mapIdx (fun k q => fval G M0 6 i k q)) : va_E) = _
  rw [e]
  simp only [List.mapIdx_cons, List.mapIdx_nil]
  rfl
theorem cv_7 (G : Gm) : cellO G M0 7 0 = .inr (7, [.ref (ga G 9 0), .ref (ga G 6 1), .int (-1), .int 0, .int 0, .int 0, .long 0]) := by
  have e : fldT 7 = [(3, 9), (3, 10006), (0, 0), (0, 0), (0, 0), (0, 0), (1, 0)] := rfl
  have ha : arrT 7 = none := rfl
  unfold cellO
  rw [ha]
  show (.inr (7, (fldT 7).mapIdx (fun k q => fval G M0 7 0 k q)) : va_E) = _
  rw [e]
  simp only [List.mapIdx_cons, List.mapIdx_nil]
  rfl
theorem cv_8 (G : Gm) (i : Nat) : cellO G M0 8 i = .inr (8, [.ref (ga G 4 0), .ref (ga G 3 0), .ref (ga G 902 i), .ref (ga G 903 i), .int 0]) := by
  have e : fldT 8 = [(3, 4), (3, 3), (2, 902), (2, 903), (0, 0)] := rfl
  have ha : arrT 8 = none := rfl
  unfold cellO
  rw [ha]
  show (.inr (8, (fldT 8).mapIdx (fun k q => fval G M0 8 i k q)) : va_E) = _
  rw [e]
  simp only [List.mapIdx_cons, List.mapIdx_nil]
  rfl
theorem cv_9 (G : Gm) : cellO G M0 9 0 = .inr (9, [.ref (ga G 1000 0), .int 0]) := by
  have e : fldT 9 = [(2, 1000), (0, 0)] := rfl
  have ha : arrT 9 = none := rfl
  unfold cellO
  rw [ha]
  show (.inr (9, (fldT 9).mapIdx (fun k q => fval G M0 9 0 k q)) : va_E) = _
  rw [e]
  simp only [List.mapIdx_cons, List.mapIdx_nil]
  rfl
theorem cv_10 (G : Gm) : cellO G M0 10 0 = .inr (10, [.ref (ga G 1100 0), .int 0, .int (-1), .int 0, .int 0, .ref (ga G 9 0), .ref (ga G 4 0), .ref (ga G 5 0), .ref (ga G 6 0), .ref (ga G 1 0), .ref (ga G 7 0), .ref (ga G 3 0), .ref (ga G 8 0), .ref (ga G 8 1), .ref (ga G 2 0)]) := by
  have e : fldT 10 = [(2, 1100), (0, 0), (0, 0), (0, 0), (0, 0), (3, 9), (3, 4), (3, 5), (3, 6), (3, 1), (3, 7), (3, 3), (3, 8), (3, 10008), (3, 2)] := rfl
  have ha : arrT 10 = none := rfl
  unfold cellO
  rw [ha]
  show (.inr (10, (fldT 10).mapIdx (fun k q => fval G M0 10 0 k q)) : va_E) = _
  rw [e]
  simp only [List.mapIdx_cons, List.mapIdx_nil]
  rfl
theorem cv_11 (G : Gm) : cellO G M0 11 0 = .inr (11, [.int 0, .ref (ga G 1201 0), .int 0, .int 0, .int 0, .int (-1), .int 0, .int 0, .ref (ga G 1208 0), .int 0, .int 0, .int 4, .ref (ga G 1212 0), .ref (ga G 1213 0), .ref (ga G 1214 0), .ref (ga G 1215 0), .ref (ga G 1216 0), .ref (ga G 1217 0), .int 0, .int 0, .int 0, .int 0, .int 0, .int 0, .int 0, .ref (ga G 1225 0), .ref (ga G 1226 0), .ref (ga G 1227 0), .ref (ga G 1228 0), .ref (ga G 1229 0), .ref (ga G 1230 0), .long 0, .int 0, .int 0, .int 0, .int 0, .ref (ga G 1236 0), .int 0, .ref (ga G 1238 0), .int (-1), .int 0, .ref (ga G 1241 0), .ref (ga G 1242 0), .ref (ga G 1243 0), .ref (ga G 1244 0), .ref (ga G 1245 0), .ref (ga G 1246 0), .ref (ga G 1247 0), .ref (ga G 1248 0), .ref (ga G 1249 0), .ref (ga G 1250 0), .ref (ga G 1251 0), .ref (ga G 1252 0), .ref (ga G 1253 0), .ref (ga G 1254 0), .ref (ga G 1255 0), .int 0, .int 0, .int 0, .int 0, .int 0, .int 0, .int 0, .int 0, .int 0]) := by
  have e : fldT 11 = [(0, 0), (2, 1201), (0, 0), (0, 0), (0, 0), (0, 0), (0, 0), (0, 0), (2, 1208), (0, 0), (0, 0), (0, 0), (2, 1212), (2, 1213), (2, 1214), (2, 1215), (2, 1216), (2, 1217), (0, 0), (0, 0), (0, 0), (0, 0), (0, 0), (0, 0), (0, 0), (2, 1225), (2, 1226), (2, 1227), (2, 1228), (2, 1229), (2, 1230), (1, 0), (0, 0), (0, 0), (0, 0), (0, 0), (2, 1236), (0, 0), (2, 1238), (0, 0), (0, 0), (2, 1241), (2, 1242), (2, 1243), (2, 1244), (2, 1245), (2, 1246), (2, 1247), (2, 1248), (2, 1249), (2, 1250), (2, 1251), (2, 1252), (2, 1253), (2, 1254), (2, 1255), (0, 0), (0, 0), (0, 0), (0, 0), (0, 0), (0, 0), (0, 0), (0, 0), (0, 0)] := rfl
  have ha : arrT 11 = none := rfl
  unfold cellO
  rw [ha]
  show (.inr (11, (fldT 11).mapIdx (fun k q => fval G M0 11 0 k q)) : va_E) = _
  rw [e]
  simp only [List.mapIdx_cons, List.mapIdx_nil]
  rfl
theorem cv_102 (G : Gm) (i : Nat) : cellO G M0 102 i = .inl (gC G 0, 32, .inl (fun _ => 0)) := rfl
theorem cv_103 (G : Gm) (i : Nat) : cellO G M0 103 i = .inl (gC G 0, 32, .inl (fun _ => 0)) := rfl
theorem cv_104 (G : Gm) (i : Nat) : cellO G M0 104 i = .inl (gC G 0, 32, .inl (fun _ => 0)) := rfl
theorem cv_105 (G : Gm) (i : Nat) : cellO G M0 105 i = .inl (gC G 0, 32, .inl (fun _ => 0)) := rfl
theorem cv_201 (G : Gm) (i : Nat) : cellO G M0 201 i = .inl (gC G 0, 150, .inl (fun _ => 0)) := rfl
theorem cv_302 (G : Gm) (i : Nat) : cellO G M0 302 i = .inl (gC G 4, 24, .inr (.inr (.inr (.inr (fun j => if j < 24 then some (ga G 0 j) else none))))) := rfl
theorem cv_303 (G : Gm) (i : Nat) : cellO G M0 303 i = .inl (gC G 0, 24, .inl (fun _ => 0)) := rfl
theorem cv_307 (G : Gm) (i : Nat) : cellO G M0 307 i = .inl (gC G 0, 10, .inl (fun _ => 0)) := rfl
theorem cv_308 (G : Gm) (i : Nat) : cellO G M0 308 i = .inl (gC G 0, 10, .inl (fun _ => 0)) := rfl
theorem cv_402 (G : Gm) (i : Nat) : cellO G M0 402 i = .inl (gC G 0, 24, .inl (fun _ => 0)) := rfl
theorem cv_501 (G : Gm) (i : Nat) : cellO G M0 501 i = .inl (gC G 3, 64, .inr (.inr (.inr (.inr (fun j => if j < 64 then some (ga G (5501 + i) j) else none))))) := rfl
theorem cv_502 (G : Gm) (i : Nat) : cellO G M0 502 i = .inl (gC G 0, 64, .inl (fun _ => 0)) := rfl
theorem cv_503 (G : Gm) (i : Nat) : cellO G M0 503 i = .inl (gC G 0, 64, .inl (fun _ => 0)) := rfl
theorem cv_508 (G : Gm) (i : Nat) : cellO G M0 508 i = .inl (gC G 3, 255, .inr (.inr (.inr (.inr (fun j => if j < 255 then some (ga G (5508 + i) j) else none))))) := rfl
theorem cv_509 (G : Gm) (i : Nat) : cellO G M0 509 i = .inl (gC G 3, 255, .inr (.inr (.inr (.inr (fun j => if j < 255 then some (ga G (5509 + i) j) else none))))) := rfl
theorem cv_510 (G : Gm) (i : Nat) : cellO G M0 510 i = .inl (gC G 3, 255, .inr (.inr (.inr (.inr (fun j => if j < 255 then some (ga G (5510 + i) j) else none))))) := rfl
theorem cv_511 (G : Gm) (i : Nat) : cellO G M0 511 i = .inl (gC G 0, 255, .inl (fun _ => 0)) := rfl
theorem cv_512 (G : Gm) (i : Nat) : cellO G M0 512 i = .inl (gC G 0, 255, .inl (fun _ => 0)) := rfl
theorem cv_702 (G : Gm) (i : Nat) : cellO G M0 702 i = .inl (gC G 0, 24, .inl (fun _ => 0)) := rfl
theorem cv_703 (G : Gm) (i : Nat) : cellO G M0 703 i = .inl (gC G 0, 24, .inl (fun _ => 0)) := rfl
theorem cv_704 (G : Gm) (i : Nat) : cellO G M0 704 i = .inl (gC G 2, 24, .inl (fun _ => 0)) := rfl
theorem cv_707 (G : Gm) (i : Nat) : cellO G M0 707 i = .inl (gC G 0, 6, .inl (fun _ => 0)) := rfl
theorem cv_709 (G : Gm) (i : Nat) : cellO G M0 709 i = .inl (gC G 0, 6, .inl (fun _ => 0)) := rfl
theorem cv_710 (G : Gm) (i : Nat) : cellO G M0 710 i = .inl (gC G 3, 6, .inr (.inr (.inr (.inr (fun j => if j < 6 then some (ga G (5710 + i) j) else none))))) := rfl
theorem cv_902 (G : Gm) (i : Nat) : cellO G M0 902 i = .inl (gC G 0, 64, .inl (fun _ => 0)) := rfl
theorem cv_903 (G : Gm) (i : Nat) : cellO G M0 903 i = .inl (gC G 0, 64, .inl (fun _ => 0)) := rfl
theorem cv_1000 (G : Gm) (i : Nat) : cellO G M0 1000 i = .inl (gC G 1, 255, .inr (.inl (fun _ => 0))) := rfl
theorem cv_1100 (G : Gm) (i : Nat) : cellO G M0 1100 i = .inl (gC G 0, 300, .inl (fun _ => 0)) := rfl
theorem cv_1201 (G : Gm) (i : Nat) : cellO G M0 1201 i = .inl (gC G 0, 2, .inl (fun _ => 0)) := rfl
theorem cv_1208 (G : Gm) (i : Nat) : cellO G M0 1208 i = .inl (gC G 0, 300, .inl (fun _ => 0)) := rfl
theorem cv_1212 (G : Gm) (i : Nat) : cellO G M0 1212 i = .inl (gC G 3, 64, .inr (.inr (.inr (.inr (fun j => if j < 64 then some (ga G (6212 + i) j) else none))))) := rfl
theorem cv_1213 (G : Gm) (i : Nat) : cellO G M0 1213 i = .inl (gC G 0, 64, .inl (fun _ => 0)) := rfl
theorem cv_1214 (G : Gm) (i : Nat) : cellO G M0 1214 i = .inl (gC G 0, 64, .inl (fun _ => 0)) := rfl
theorem cv_1215 (G : Gm) (i : Nat) : cellO G M0 1215 i = .inl (gC G 0, 256, .inl (fun _ => 0)) := rfl
theorem cv_1216 (G : Gm) (i : Nat) : cellO G M0 1216 i = .inl (gC G 1, 256, .inr (.inl (fun _ => 0))) := rfl
theorem cv_1217 (G : Gm) (i : Nat) : cellO G M0 1217 i = .inl (gC G 3, 256, .inr (.inr (.inr (.inr (fun j => if j < 256 then some (ga G (6217 + i) j) else none))))) := rfl
theorem cv_1225 (G : Gm) (i : Nat) : cellO G M0 1225 i = .inl (gC G 0, 24, .inl (fun _ => 0)) := rfl
theorem cv_1226 (G : Gm) (i : Nat) : cellO G M0 1226 i = .inl (gC G 0, 24, .inl (fun _ => 0)) := rfl
theorem cv_1227 (G : Gm) (i : Nat) : cellO G M0 1227 i = .inl (gC G 0, 24, .inl (fun _ => 0)) := rfl
theorem cv_1228 (G : Gm) (i : Nat) : cellO G M0 1228 i = .inl (gC G 0, 6, .inl (fun _ => 0)) := rfl
theorem cv_1229 (G : Gm) (i : Nat) : cellO G M0 1229 i = .inl (gC G 0, 6, .inl (fun _ => 0)) := rfl
theorem cv_1230 (G : Gm) (i : Nat) : cellO G M0 1230 i = .inl (gC G 3, 6, .inr (.inr (.inr (.inr (fun j => if j < 6 then some (ga G (6230 + i) j) else none))))) := rfl
theorem cv_1236 (G : Gm) (i : Nat) : cellO G M0 1236 i = .inl (gC G 3, 24, .inr (.inr (.inr (.inr (fun j => if j < 24 then some (ga G (6236 + i) j) else none))))) := rfl
theorem cv_1238 (G : Gm) (i : Nat) : cellO G M0 1238 i = .inl (gC G 0, 64, .inl (fun _ => 0)) := rfl
theorem cv_1241 (G : Gm) (i : Nat) : cellO G M0 1241 i = .inl (gC G 0, 64, .inl (fun _ => 0)) := rfl
theorem cv_1242 (G : Gm) (i : Nat) : cellO G M0 1242 i = .inl (gC G 0, 64, .inl (fun _ => 0)) := rfl
theorem cv_1243 (G : Gm) (i : Nat) : cellO G M0 1243 i = .inl (gC G 3, 24, .inr (.inr (.inr (.inr (fun j => if j < 24 then some (ga G (6243 + i) j) else none))))) := rfl
theorem cv_1244 (G : Gm) (i : Nat) : cellO G M0 1244 i = .inl (gC G 3, 24, .inr (.inr (.inr (.inr (fun j => if j < 24 then some (ga G (6244 + i) j) else none))))) := rfl
theorem cv_1245 (G : Gm) (i : Nat) : cellO G M0 1245 i = .inl (gC G 3, 24, .inr (.inr (.inr (.inr (fun j => if j < 24 then some (ga G (6245 + i) j) else none))))) := rfl
theorem cv_1246 (G : Gm) (i : Nat) : cellO G M0 1246 i = .inl (gC G 0, 24, .inl (fun _ => 0)) := rfl
theorem cv_1247 (G : Gm) (i : Nat) : cellO G M0 1247 i = .inl (gC G 0, 24, .inl (fun _ => 0)) := rfl
theorem cv_1248 (G : Gm) (i : Nat) : cellO G M0 1248 i = .inl (gC G 0, 24, .inl (fun _ => 0)) := rfl
theorem cv_1249 (G : Gm) (i : Nat) : cellO G M0 1249 i = .inl (gC G 0, 24, .inl (fun _ => 0)) := rfl
theorem cv_1250 (G : Gm) (i : Nat) : cellO G M0 1250 i = .inl (gC G 0, 24, .inl (fun _ => 0)) := rfl
theorem cv_1251 (G : Gm) (i : Nat) : cellO G M0 1251 i = .inl (gC G 0, 24, .inl (fun _ => 0)) := rfl
theorem cv_1252 (G : Gm) (i : Nat) : cellO G M0 1252 i = .inl (gC G 0, 24, .inl (fun _ => 0)) := rfl
theorem cv_1253 (G : Gm) (i : Nat) : cellO G M0 1253 i = .inl (gC G 2, 24, .inl (fun _ => 0)) := rfl
theorem cv_1254 (G : Gm) (i : Nat) : cellO G M0 1254 i = .inl (gC G 0, 11, .inl (fun _ => 0)) := rfl
theorem cv_1255 (G : Gm) (i : Nat) : cellO G M0 1255 i = .inl (gC G 0, 11, .inl (fun _ => 0)) := rfl
theorem cv_5501 (G : Gm) (i : Nat) : cellO G M0 5501 i = .inl (gC G 0, 150, .inl (fun _ => 0)) := rfl
theorem cv_5508 (G : Gm) (i : Nat) : cellO G M0 5508 i = .inl (gC G 0, 64, .inl (fun _ => 0)) := rfl
theorem cv_5509 (G : Gm) (i : Nat) : cellO G M0 5509 i = .inl (gC G 0, 64, .inl (fun _ => 0)) := rfl
theorem cv_5510 (G : Gm) (i : Nat) : cellO G M0 5510 i = .inl (gC G 0, 64, .inl (fun _ => 0)) := rfl
theorem cv_5710 (G : Gm) (i : Nat) : cellO G M0 5710 i = .inl (gC G 0, 4, .inl (fun _ => 0)) := rfl
theorem cv_5711 (G : Gm) (i : Nat) : cellO G M0 5711 i = .inl (gC G 0, 4, .inl (fun _ => 0)) := rfl
theorem cv_6212 (G : Gm) (i : Nat) : cellO G M0 6212 i = .inl (gC G 0, 150, .inl (fun _ => 0)) := rfl
theorem cv_6217 (G : Gm) (i : Nat) : cellO G M0 6217 i = .inl (gC G 0, 64, .inl (fun _ => 0)) := rfl
theorem cv_6230 (G : Gm) (i : Nat) : cellO G M0 6230 i = .inl (gC G 0, 4, .inl (fun _ => 0)) := rfl
theorem cv_6236 (G : Gm) (i : Nat) : cellO G M0 6236 i = .inl (gC G 0, 4, .inl (fun _ => 0)) := rfl
theorem cv_6243 (G : Gm) (i : Nat) : cellO G M0 6243 i = .inl (gC G 0, 64, .inl (fun _ => 0)) := rfl
theorem cv_6244 (G : Gm) (i : Nat) : cellO G M0 6244 i = .inl (gC G 0, 64, .inl (fun _ => 0)) := rfl
theorem cv_6245 (G : Gm) (i : Nat) : cellO G M0 6245 i = .inl (gC G 0, 32, .inl (fun _ => 0)) := rfl
theorem cv_9000 (G : Gm) (i : Nat) : cellO G M0 9000 i = .inl (gC G 1, 1, .inr (.inl (fun _ => 0))) := rfl
