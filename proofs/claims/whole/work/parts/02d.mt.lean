theorem jMt_ok_2 : ((((jMt.drop 40).take 20).zip ((jMp.drop 40).take 20)).all (fun q => jRok q.1 q.2)) = true := by decide +kernel
