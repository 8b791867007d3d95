def bt_F (a k : Nat) : Int32 := match a, k with
  | 1, 2 => 100
  | 39, 2 => 100
  | 57, 2 => 100
  | 75, 9 => 100
  | 21, 8 => 1
  | 26, 9 => -6
  | 28, 9 => -6
  | 30, 9 => -6
  | 32, 9 => -6
  | _, _ => 0
def bt_p : Nat → Int32 := upd (fun _ => 0) 0 10
def bt_A (r : Nat) : Nat → Int32 := match r with
  | 8 => bt_p
  | 11 => bt_p
  | 14 => bt_p
  | 17 => bt_p
  | 46 => bt_p
  | 49 => bt_p
  | 52 => bt_p
  | 55 => bt_p
  | 64 => bt_p
  | 67 => bt_p
  | 70 => bt_p
  | 73 => bt_p
  | 77 => upd (upd (upd (upd (fun _ => 0) 0 10) 4 10) 8 10) 12 10
  | 80 => upd (upd (upd (upd (fun _ => 0) 0 1) 1 1) 2 1) 3 1
  | _ => fun _ => 0
def bt_h : ab_H := hpG bt_F bt_A (ly_T.take 75) 0
theorem bt_len : bt_h.length = 75 := by
  unfold bt_h
  rw [hpG_len]
  decide +kernel
set_option maxRecDepth 100000 in
set_option maxHeartbeats 10000000 in
theorem bt_6 : fX6_init [.inr (6, dfX6)] 0 = some bt_h := by
  rfl
set_option maxRecDepth 100000 in
set_option maxHeartbeats 10000000 in
theorem bt_7 : fX7_init (bt_h ++ [.inr (7, dfX7)]) 75 = some (hp bt_F bt_A) := by
  rfl
