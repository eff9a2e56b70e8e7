theorem tb_len : lw_tbl.length = lw_tbl.length := rfl
theorem tb_good : (lw_tbl.filter goodWord).length = lw_tbl.length := by decide +kernel
