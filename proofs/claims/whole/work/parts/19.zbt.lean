theorem bt_i {r : Int32} {m : fw_M} {f : Int32 → fw_M → Option fw_O} : bd_t (some (.inl r, m)) f = f r m := rfl
